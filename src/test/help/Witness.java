import java.util.ArrayList;
import java.util.List;

/**
 * Cranes with something of everything, and all that can be asked of one. Two that were made alike must answer alike,
 * if what one of them was told besides changed nothing. Making, telling and asking stay below 512 calls.
 */
final class Witness {
    private final List<Long> answers = new ArrayList<>();
    private final List<String> questions = new ArrayList<>();
    private final CranePads x;

    private Witness(CranePads x) {
        this.x = x;
    }

    // ---- cranes

    /** What is told of one that MAY be so, THE IMAGE of another, a PLAN of moves, a TAPE with a text. */
    static CranePads rich() {
        CranePads x = new CranePads();
        x.part(700, 1, -1, false);
        x.part(40, -6, 2, true);
        x.entry(1, 20, 333);
        x.put(6, 4);
        x.book();
        x.image();
        x.pad(0, 12, 11, 5000);
        x.pad(1, -10, 12, 6000);
        x.pad(2, -11, -10, 7000);
        x.pad(3, 9, -12, 8000);
        x.part(25, 3, 4, false);
        x.mass(1, 41);
        int[] dials = {0, 1, 2, 3, 4, 5, 6, 7, 10, 11, 12, 13};
        int[] values = {3, 8, 2, 30, 3, 1, 1, 2, 90, 80, 70, 60};
        for (int i = 0; i < dials.length; i++) {
            x.put(dials[i], values[i]);
        }
        x.entry(0, 4, 90);
        x.entry(0, 40, 9);
        x.entry(1, 2, 500);
        x.entry(1, 30, 100);
        x.entry(2, 60, 9999);
        x.book();
        x.list(1, 0);
        x.list(2, 6);
        x.list(3, 4);
        for (int i = 0; i < 6; i++) {
            x.set(2, i, 1000 + i);
        }
        x.lay(3, 0);
        Due.plan(x, "slew 4;reach 9");
        Due.feed(x, "take 7;set");
        return x;
    }

    /** Rich, but it TIPS: no PUSHES. */
    static CranePads tipping() {
        CranePads x = rich();
        x.put(1, 60);
        x.put(3, 9999);
        return x;
    }

    /** Rich, but the PLAN has an unlawful MOMENT, and a take. */
    static CranePads rash() {
        CranePads x = rich();
        x.clear();
        Due.plan(x, "slew 5;take 9999;set");
        Due.feed(x, "wind 3");
        return x;
    }

    /** Rich, and all that can be full is full. */
    static CranePads full() {
        CranePads x = rich();
        for (int i = 3; i < 8; i++) {
            x.part(2 + i, i, i, i % 2 == 0);
        }
        for (int i = 0; i < 7; i++) {
            x.entry(1, 50 + i, 5);
        }
        for (int i = 2; i < 8; i++) {
            x.book();
        }
        Due.feed(x, Due.times(18, ";set") + ";wind 0009;take 05");
        return x;
    }

    // ---- questions

    /** Every answer; the crane is used up by it. */
    static Witness of(CranePads x) {
        Witness w = new Witness(x);
        w.whatIsTold();
        w.charts(1);
        w.asItIs();
        w.planAndBook();
        w.lists();
        w.ask("plan of THE TAPE", x.plan());
        w.plan();
        w.masses();
        w.ask("undo", x.undo());
        w.whatIsTold();
        w.charts(10);
        w.masses();
        return w;
    }

    int calls() {
        return answers.size();
    }

    /** The first answer that differs, or null. */
    String differsFrom(Witness other) {
        for (int i = 0; i < Math.min(answers.size(), other.answers.size()); i++) {
            if (!answers.get(i).equals(other.answers.get(i))) {
                return questions.get(i) + " was " + answers.get(i) + " and is " + other.answers.get(i);
            }
        }
        return answers.size() == other.answers.size() ? null : "not as many answers";
    }

    private void ask(String question, long answer) {
        questions.add(question);
        answers.add(answer);
    }

    private void whatIsTold() {
        for (int what = 0; what < 14; what++) {
            ask("told " + what, x.told(what));
        }
        for (int pad = 0; pad < 4; pad++) {
            for (int what = 0; what < 3; what++) {
                ask("padOf " + pad + " " + what, x.padOf(pad, what));
            }
        }
        for (int what = 0; what < 7; what++) {
            ask("count " + what, x.count(what));
        }
    }

    private void charts(int step) {
        for (int reach = 0; reach <= 60; reach += step) {
            for (int chart = 0; chart < 3; chart++) {
                if (step > 1 || reach < 3 || reach % 5 == 0 || reach > 48) {
                    ask("read " + chart + " " + reach, x.read(chart, reach));
                }
            }
        }
    }

    private void asItIs() {
        ask("weight", x.weight());
        ask("why", x.why());
        ask("lifted", x.lifted());
        for (int k = 0; k < 4; k++) {
            ask("moment " + k, x.moment(k, 0));
            ask("push " + k, x.push(k, 0));
        }
    }

    private void planAndBook() {
        plan();
        for (int i = 0; i < 9; i++) {
            ask("booked LOAD " + i, x.booked(i, 0));
            ask("booked REACH " + i, x.booked(i, 2));
        }
        ask("heaviest", x.heaviest());
    }

    private void plan() {
        for (int what = 0; what < 4; what++) {
            ask("checked " + what, x.checked(what));
        }
        ask("spare", x.spare());
        ask("backward", x.backward());
    }

    private void lists() {
        for (int list = 0; list < 4; list++) {
            ask("set beyond in " + list, x.set(list, 30, 1));
            for (int i = 0; i < 7; i++) {
                ask("get " + list + " " + i, x.get(list, i));
            }
        }
    }

    private void masses() {
        for (int part = 0; part < 8; part++) {
            ask("mass " + part, x.mass(part, 1));
        }
    }
}
