import java.util.Random;

/** Random runs on OrderedWorks and on Model side by side: every answer, and after it all that can be seen. */
public final class ModelTest {
    private static final int CALLS = 512;

    private final Random dice;
    private final OrderedWorks works;
    private final Model model;
    private final int mood;
    private final String name;
    private int call;
    private String text = "new";
    private boolean same = true;

    private ModelTest(long seed) {
        dice = new Random(seed);
        int n = dice.nextInt(13) - 6;
        int t = dice.nextInt(25) - 12;
        works = new OrderedWorks(n, t);
        model = new Model(n, t);
        mood = (int) Math.floorMod(seed, 8L);
        name = "seed " + seed;
    }

    public static void main(String[] args) {
        int seeds = args.length > 0 ? Integer.parseInt(args[0]) : 160;
        int[] seen = new int[16];
        for (long seed = 0; seed < seeds && Check.wrong() < 5; seed++) {
            ModelTest test = new ModelTest(seed);
            test.run();
            test.tally(seen);
        }
        System.out.println("accepted " + seen[0] + ", gaps " + seen[1] + ", full logs " + seen[2] + ", points "
            + seen[3] + ", leads " + seen[4] + ", sessions " + seen[5] + ", lost " + seen[6] + ", broken " + seen[7]);
        Check.yes("runs with acceptances, gaps, points, leads and sessions",
            seen[0] > 0 && seen[1] > 0 && seen[3] > 0 && seen[4] > 0 && seen[5] > 0);
        Check.end();
    }

    private void tally(int[] seen) {
        seen[0] += model.accepteds.size();
        for (Model.Rep r : model.reps) {
            for (int[] q : r.log) {
                seen[1] += q == null ? 1 : 0;
            }
            seen[2] += r.log.size() == 100 ? 1 : 0;
            seen[3] += r.point > 0 ? 1 : 0;
            seen[4] += r.last.l() > 0 ? 1 : 0;
            seen[5] += r.last.s() > 1 ? 1 : 0;
        }
        seen[6] += model.lost;
        seen[7] += model.broken();
    }

    private void run() {
        compareAll();
        for (call = 1; call <= CALLS && same; call++) {
            step();
            compareAll();
        }
    }

    private void match(String what, Check.Call ours, Check.Call theirs) {
        String got = Check.told(ours);
        String want = Check.told(theirs);
        if (!got.equals(want) && same) {
            same = false;
            System.out.println(name + " call " + call + " (" + text + "): " + what + " " + got + ", model " + want);
        }
        Check.due(name, got.equals(want) ? 1 : 0, 1);
    }

    private void act(String what, Check.Call ours, Check.Call theirs) {
        text = what;
        match(what, ours, theirs);
    }

    /** An index, now and then one that is not there. */
    private int some(int n) {
        return dice.nextInt(40) == 0 ? (dice.nextBoolean() ? -1 : n) : dice.nextInt(n);
    }

    private int someMessage() {
        if (model.air.isEmpty() || dice.nextInt(60) == 0) {
            return dice.nextInt(model.sent + 2) - 1;
        }
        int k = dice.nextInt(model.air.size());
        return model.air.get(dice.nextInt(3) == 0 ? k : Math.min(k, dice.nextInt(6))).number();
    }

    private void step() {
        int roll = dice.nextInt(100);
        if (roll < 22) {
            request();
        } else if (roll < 50) {
            deliver();
        } else if (roll < 54 + (mood == 1 ? 12 : 0)) {
            int m = someMessage();
            act("lose " + m, () -> { works.lose(m); return 0; }, () -> { model.lose(m); return 0; });
        } else if (roll < 74) {
            flow();
        } else if (roll < 82) {
            time();
        } else if (roll < 92) {
            trouble();
        } else {
            bytes();
        }
    }

    private void request() {
        int c = some(4);
        if (mood != 2 && dice.nextInt(4) == 0 || mood == 2 && dice.nextInt(10) > 0) {
            act("again " + c, () -> { works.again(c); return 0; }, () -> { model.again(c); return 0; });
            return;
        }
        int kind = some(3);
        int key = mood == 3 ? some(8) : some(2);
        int word = dice.nextInt(3) == 0 ? dice.nextInt() : dice.nextInt(9);
        act("request " + c + " " + kind + " " + key + " " + word,
            () -> works.request(c, kind, key, word), () -> model.request(c, kind, key, word));
    }

    private void deliver() {
        int m = someMessage();
        act("deliver " + m, () -> { works.deliver(m); return 0; }, () -> { model.deliver(m); return 0; });
    }

    private void flow() {
        int k = mood == 4 ? dice.nextInt(4) : dice.nextInt(44) - 2;
        act("flow " + k, () -> works.flow(k), () -> model.flow(k));
    }

    private void time() {
        if (mood == 5 || dice.nextInt(3) == 0) {
            int k = dice.nextInt(24) - 1;
            act("calm " + k, () -> works.calm(k), () -> model.calm(k));
        } else {
            int k = dice.nextInt(12) == 0 ? dice.nextInt(44) - 1 : dice.nextInt(5);
            act("tick " + k, () -> works.tick(k), () -> model.tick(k));
        }
    }

    private void trouble() {
        int r = some(model.n);
        switch (dice.nextInt(mood == 6 ? 5 : 12)) {
            case 0:
                act("nudge " + r, () -> works.nudge(r), () -> model.nudge(r));
                break;
            case 1:
                act("suspect " + r, () -> { works.suspect(r); return 0; }, () -> { model.suspect(r); return 0; });
                break;
            case 2:
                act("down " + r, () -> { works.down(r); return 0; }, () -> { model.down(r); return 0; });
                break;
            case 3:
            case 4:
                act("up " + r, () -> { works.up(r); return 0; }, () -> { model.up(r); return 0; });
                break;
            case 5:
                act("fail", () -> works.fail() ? 1 : 0, () -> model.fail() ? 1 : 0);
                break;
            case 6:
                act("install", () -> works.install(), () -> model.install());
                break;
            default:
                int s = dice.nextInt(4) == 0 ? r : Math.max(0, leader());
                act("sync " + s, () -> { works.sync(s); return 0; }, () -> { model.sync(s); return 0; });
                break;
        }
    }

    private int leader() {
        for (Model.Rep r : model.reps) {
            if (r.view.l() % model.n == r.id && r.status == 0 && !r.down) {
                return r.id;
            }
        }
        return -1;
    }

    private void bytes() {
        if (dice.nextBoolean()) {
            int k = some(Math.max(1, model.air.size()));
            act("wire " + k, () -> works.wire(k), () -> model.wire(k));
        } else if (dice.nextBoolean()) {
            int r = some(model.n);
            act("image " + r, () -> works.image(r), () -> model.image(r));
        }
        int length = model.out.length;
        int i = dice.nextBoolean() ? -1 : dice.nextInt(length + 2);
        int bit = dice.nextInt(10) - 1;
        if (dice.nextInt(4) > 0) {
            act("take " + i + " " + bit, () -> works.take(i, bit), () -> model.take(i, bit));
        }
        int puts = dice.nextInt(3) == 0 ? dice.nextInt(6) : 0;
        for (int p = 0; p < puts; p++) {
            long v = dice.nextBoolean() ? dice.nextLong() : dice.nextLong() & 0x0703028101030201L;
            int n = dice.nextInt(11) - 1;
            act("put " + v + " " + n, () -> works.put(v, n) ? 1 : 0, () -> model.put(v, n) ? 1 : 0);
        }
        if (dice.nextInt(5) > 0) {
            act("untake", () -> works.untake(), () -> model.untake());
        }
    }

    private void compareAll() {
        for (int what = -1; what <= 9; what++) {
            int w = what;
            match("about " + w, () -> works.about(w), () -> model.about(w));
        }
        for (int r = -1; r <= model.n; r++) {
            compareReplica(r);
        }
        for (int c = -1; c <= 4; c++) {
            int i = c;
            match("answer " + i, () -> works.answer(i), () -> model.answer(i));
            for (int what = -1; what <= 5; what++) {
                int w = what;
                match("client " + i + " " + w, () -> works.client(i, w), () -> model.client(i, w));
            }
        }
        for (int k = -1; k <= model.air.size(); k++) {
            int i = k;
            for (int what = 0; what <= 4; what++) {
                int w = what;
                match("message " + i + " " + w, () -> works.message(i, w), () -> model.message(i, w));
            }
        }
        match("broken", () -> works.broken(), () -> model.broken());
        match("tolds", () -> works.tolds(), () -> model.tolds());
        match("fault 0", () -> works.fault(0), () -> model.fault(0));
        match("fault 1", () -> works.fault(1), () -> model.fault(1));
        if (call % 16 == 0 || text.startsWith("wire") || text.startsWith("image") || text.startsWith("untake")) {
            compareBytes();
        }
        if (call % 64 == 0) {
            compareAir();
        }
    }

    private void compareReplica(int r) {
        for (int what = -1; what <= 11; what++) {
            int w = what;
            match("replica " + r + " " + w, () -> works.replica(r, w), () -> model.replica(r, w));
        }
        for (int key = -1; key <= 8; key++) {
            int k = key;
            match("word " + r + " " + k, () -> works.word(r, k), () -> model.word(r, k));
        }
        int length = r < 0 || r >= model.n ? 2 : model.reps.get(r).log.size();
        for (int slot = call % 8 == 0 ? 0 : Math.max(0, length - 9); slot <= length + 1; slot++) {
            int s = slot;
            for (int what = -1; what <= 6; what++) {
                int w = what;
                match("entry " + r + " " + s + " " + w, () -> works.entry(r, s, w), () -> model.entry(r, s, w));
            }
        }
    }

    private void compareBytes() {
        for (int i = -1; i <= model.out.length; i++) {
            int at = i;
            match("output " + at, () -> works.output(at), () -> model.output(at));
        }
        for (int i = -1; i <= model.told.size(); i++) {
            int at = i;
            match("told " + at, () -> works.told(at), () -> model.told(at));
        }
    }

    /** Every message and every image, byte by byte. */
    private void compareAir() {
        for (int k = 0; k < model.air.size(); k++) {
            int i = k;
            match("wire " + i, () -> works.wire(i), () -> model.wire(i));
            compareBytes();
        }
        for (int r = 0; r < model.n; r++) {
            int i = r;
            match("image " + i, () -> works.image(i), () -> model.image(i));
            compareBytes();
        }
    }
}
