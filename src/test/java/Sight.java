import java.util.ArrayList;
import java.util.List;

/**
 * What an object answers to everything that can be asked of it, so that two of them can be told apart. Some
 * 300 calls, the last of which change it: nothing is to be asked of it afterwards.
 */
final class Sight {
    private final LeverCurtain x;
    private final List<String> told = new ArrayList<>();

    private Sight(LeverCurtain x) {
        this.x = x;
    }

    static List<String> of(LeverCurtain x) {
        Sight sight = new Sight(x);
        sight.booth();
        sight.machines();
        sight.levers();
        sight.tests();
        sight.papers();
        sight.rooms();
        sight.tape();
        return sight.told;
    }

    private void tell(String call, long answer) {
        told.add(call + " = " + answer);
    }

    private void booth() {
        for (int what = 0; what < 9; what++) {
            tell("count(" + what + ")", x.count(what));
        }
        for (int row = 0; row < 4; row++) {
            tell("may(" + (5 * row + 3) + ", 0)", x.may(5 * row + 3, 0));
            tell("may(" + (5 * row + 3) + ", 1)", x.may(5 * row + 3, 1));
        }
        tell("proof(0)", x.proof(0));
        tell("proof(1)", x.proof(1));
        tell("rows()", x.rows());
        tell("need()", x.need());
        tell("orders(7)", x.orders(7));
    }

    private void machines() {
        for (int machine = 0; machine < 4; machine++) {
            String on = "(" + machine + ")";
            tell("voters" + on, x.voters(machine));
            tell("agree" + on, x.agree(machine));
            tell("fitting" + on, x.fitting(machine, -1));
            for (int what = 0; what < 3; what++) {
                tell("sets" + on + what, x.sets(machine, what));
            }
            tell("differs" + on, x.differs(machine));
            tell("badOnes" + on, x.badOnes(machine));
            tell("exposed" + on, x.exposed(machine, 0, 9999));
            tell("exposed early" + on, x.exposed(machine, 5, 65));
            tell("alone" + on, x.alone(machine, 0, 0, 9999));
            tell("placeAt" + on, x.placeAt(machine, 45));
            tell("placeAt last" + on, x.placeAt(machine, 9999));
            tell("cover" + on, x.cover(machine));
        }
    }

    private void levers() {
        for (int lever = 0; lever < 5; lever++) {
            for (int machine = 0; machine < 3; machine++) {
                String at = "(" + machine + ", " + lever + ")";
                tell("least span" + at, x.span(machine, lever, 0));
                tell("greatest span" + at, x.span(machine, lever, 1));
                tell("changed" + at, x.changed(machine, lever));
                tell("kept" + at + 0, x.kept(machine, lever, 0));
                tell("kept" + at + 1, x.kept(machine, lever, 1));
            }
            tell("total(" + lever + ")", x.total(lever, 1));
            tell("till(" + lever + ", 0)", x.till(lever, 0));
            tell("till(" + lever + ", 1)", x.till(lever, 1));
            tell("ahead(" + lever + ")", x.ahead(lever, lever ^ 1));
            tell("joinedAhead(" + lever + ")", x.joinedAhead(lever, lever ^ 1));
            tell("first(" + lever + ")", x.first(lever, 5, 4));
        }
        for (int office = 0; office < 3; office++) {
            tell("wins(" + office + ")", x.wins(office));
            tell("name(" + office + ")", x.name(office, 5, 1, 0));
        }
    }

    private void tests() {
        for (int test = 0; test < 8; test++) {
            tell("sees(" + test + ")", x.sees(test, 0));
        }
    }

    private void papers() {
        for (int paper = 0; paper < 3; paper++) {
            for (int hand = 0; hand < 4; hand++) {
                tell("goes(" + hand + ", " + paper + ")", x.goes(hand, paper));
                tell("far(" + hand + ", " + paper + ")", x.far(hand, paper, 0));
            }
            tell("agrees(" + paper + ")", x.agrees(paper));
        }
        for (int what = 0; what < 4; what++) {
            tell("papers(" + what + ")", x.papers(what));
        }
        for (int name = 0; name < 3; name++) {
            tell("sure for " + name, x.writtenFor(name, 0));
            tell("most for " + name, x.writtenFor(name, 1));
        }
        tell("elected()", x.elected());
    }

    /** How many there are of what no count tells: by the number of one more. */
    private void rooms() {
        for (int machine = 0; machine < 3; machine++) {
            tell("one more fault", x.trouble(machine, 2, 0, 0));
            tell("one more event", x.event(machine, 9999, 2, 0));
            tell("one more recount", x.recount(machine, 0, 0));
            tell("one more of lever 1", x.recount(machine, 1, 0));
        }
    }

    /** The bytes themselves show by how FAR they are from NAMES, if they are a word. */
    private void tape() {
        tell("fault()", x.fault());
        boolean word = x.read(3, 29);
        tell("read(3, 29)", word ? 1 : 0);
        for (int name = 0; name < 3; name++) {
            tell("far of the tape from " + name, x.far(3, 29, name));
        }
        tell("law()", x.law());
        tell("use of it", x.use(x.count(2) - 1) ? 1 : 0);
        tell("voters by it", x.voters(0));
        tell("bytes left", x.count(5));
    }
}
