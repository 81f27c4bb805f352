import java.util.ArrayList;
import java.util.List;

/** What a wall tells of itself, in an order that is always the same; the last calls change it, so it is asked once. */
final class Portrait {
    private final Face face;
    private final int most;
    private final List<String> told = new ArrayList<>();

    private Portrait(Face face, int most) {
        this.face = face;
        this.most = most;
    }

    static List<String> of(Face face, int most) {
        Portrait portrait = new Portrait(face, most);
        portrait.counts();
        portrait.rowsAndBeds();
        portrait.things();
        portrait.lake();
        portrait.charter();
        portrait.floods();
        portrait.book();
        portrait.whatIsToCome();
        return portrait.told;
    }

    private long ask(String name, long... args) {
        if (told.size() >= most) return 0;
        long answer = face.call(name, args);
        told.add(name + java.util.Arrays.toString(args) + " = " + answer);
        return answer;
    }

    private void counts() {
        for (int what = 0; what <= 10; what++) ask("about", what);
        for (int what = 2; what <= 4; what++) ask("raised", what);
        for (int gate = 0; gate < 4; gate++) ask("gate", gate, 1);
        for (int i = 0; i < 4; i++) ask("signal", i);
    }

    private void rowsAndBeds() {
        for (int row = 0; row < 5; row++) {
            long cells = ask("count", row, 0);
            ask("count", row, 1);
            for (int i = 0; i < Math.min(cells, 5); i++) ask("getReal", row, i);
        }
        for (int bed = 0; bed < 2; bed++) {
            ask("bare", bed, -1);
            for (int i = 0; i < 4; i++) ask("spot", bed, i / 2, i % 2);
        }
    }

    private void things() {
        for (int thing = 0; thing < 3; thing++) ask("says", thing, 1);
        for (int place = 0; place < 8; place++) ask("hung", place / 4, place % 4);
        for (int box = 0; box < 10; box++) ask("used", box);
        for (int card = 0; card < 3; card++) {
            ask("along", card, 1);
            ask("cardAsk", card, 1);
            for (int f = 0; f < 8; f++) ask("fieldOf", card, f);
        }
    }

    private void lake() {
        for (int what = 0; what < 14; what++) ask("lake", what);
        for (int gauge = 0; gauge < 6; gauge++) ask("heard", gauge);
        for (int i = 0; i < 12; i++) ask("moved", i / 3, i % 3);
    }

    private void charter() {
        for (int right = 0; right < 4; right++) ask("has", right);
        for (double level : new double[] {0.0, 5.0, 9.5}) ask("ruleAt", 10, Double.doubleToLongBits(level));
    }

    private void floods() {
        ask("chosen");
        for (int k = 0; k < 8; k++) ask("regret", k);
        for (int run = 0; run < 6; run++) ask("peak", run);
        for (int part = 0; part < 2; part++) ask("chance", 0, part);
    }

    private void book() {
        ask("open");
        for (int what = 0; what < 3; what++) ask("lost", what, -1);
        for (int i = 0; i < 6; i++) ask("opened", i / 3, i % 3);
        for (int i = 0; i < 12; i++) ask("pageByte", i / 6, i % 6);
    }

    private void whatIsToCome() {
        ask("stock", 0);
        ask("hours", 12);
        for (int plan = 0; plan < 12; plan++) ask("wipe", plan);
        ask("part", 1000003);
        for (int right = 0; right < 4; right++) ask("has", right);
        ask("run", 0, 0);
        for (int gauge = 0; gauge < 6; gauge++) ask("heard", gauge);
        for (int what = 0; what < 14; what++) ask("lake", what);
    }
}
