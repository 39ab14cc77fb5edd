import java.util.ArrayList;
import java.util.Arrays;
import java.util.List;
import java.util.TreeMap;
import java.util.TreeSet;
import java.util.zip.CRC32;

/**
 * A second writing of the document, with the whole Java library and without thought for room or speed:
 * everything that is told is a fresh copy. ModelTest sets it beside OrderedWorks.
 */
final class Model {
    static final int NONE = -1;
    /** What stands behind the first three bytes, by KIND: n a number, R a REQUEST, L a LOG, A the end of a REPLY. */
    static final String[] BODIES = {
        "nnR", "nnn", "nnnR", "nnn", "nnn", "nnL", "nnn", "nnn", "nn", "nnnnnL", "nnnL", "nnnA", "nn",
    };

    /** A request is {client, number, kind, key, word}; null is a NOTHING. */
    record View(int l, int s) {
        boolean behind(View o) {
            return (l < o.l || s < o.s) && !(l > o.l || s > o.s);
        }

        View joined(View o) {
            return new View(Math.max(l, o.l), Math.max(s, o.s));
        }

        View nextLead() {
            return new View(l + 1, s);
        }
    }

    record Msg(int number, int kind, int from, int to, View view, View last, int base, int slot,
            int[] request, List<int[]> log, Integer answer) { }

    record Turned(View last, int base, List<int[]> log) { }

    record Accepted(int client, int number, View view, int slot, int answer) { }

    static final class Rep {
        int id;
        boolean down;
        int status;
        View view = new View(0, 1);
        View last = new View(0, 1);
        List<int[]> log = new ArrayList<>();
        int base;
        int point;
        int synced;
        TreeMap<Integer, int[]> held = new TreeMap<>();
        TreeSet<Integer> gapReplies = new TreeSet<>();
        TreeSet<Integer> syncReplies = new TreeSet<>();
        int syncM = NONE;
        TreeMap<Integer, Turned> turneds = new TreeMap<>();
        int heard;
        int asked;
        int turned;
        int spoke;
        int sentSync;

        void forget() {
            held.clear();
            gapReplies.clear();
            syncReplies.clear();
            syncM = NONE;
            turneds.clear();
        }
    }

    static final class Spot {
        View view;
        int slot;
        TreeSet<Integer> tellers = new TreeSet<>();
        int answer;
    }

    static final class Cli {
        int[] request;
        boolean open;
        int stamped;
        List<Spot> spots = new ArrayList<>();
        Accepted accepted;
        int count;
    }

    static final class Run {
        int[] words = new int[8];
        int[] numbers = new int[4];
        int[] answers = new int[4];

        /** The answer, null if the request does nothing. */
        Integer execute(int[] r) {
            if (r == null || r[1] <= numbers[r[0]]) {
                return null;
            }
            int answer = words[r[3]];
            numbers[r[0]] = r[1];
            answers[r[0]] = answer;
            words[r[3]] = r[2] == 1 ? r[4] : r[2] == 2 ? answer + r[4] : answer;
            return answer;
        }
    }

    final int n;
    final int f;
    final int t;
    final List<Rep> reps = new ArrayList<>();
    final List<Cli> clis = new ArrayList<>();
    final List<Msg> air = new ArrayList<>();
    final List<Accepted> accepteds = new ArrayList<>();
    int sent;
    int lost;
    int time;
    boolean seqUp = true;
    int session = 1;
    int count;
    int failed;
    byte[] out = new byte[0];
    byte[] tape = new byte[0];
    List<Integer> told = new ArrayList<>();
    int faultKind;
    int faultPlace = NONE;

    Model(int n, int t) {
        this.n = new int[] {3, 5, 7}[((n % 3) + 3) % 3];
        this.f = this.n / 2;
        this.t = 3 + ((t % 6) + 6) % 6;
        for (int i = 0; i < this.n; i++) {
            Rep r = new Rep();
            r.id = i;
            reps.add(r);
        }
        for (int i = 0; i < 4; i++) {
            clis.add(new Cli());
        }
    }

    private int leader(View v) {
        return v.l() % n;
    }

    private boolean leads(Rep r) {
        return leader(r.view) == r.id;
    }

    private void post(int kind, int from, int to, View view, View last, int base, int slot, int[] request,
            List<int[]> log, Integer answer) {
        Msg m = new Msg(sent++, kind, from, to, view, last, base, slot, request,
            log == null ? null : new ArrayList<>(log), answer);
        if (air.size() >= 200) {
            lost++;
        } else {
            air.add(m);
        }
    }

    private void simple(Rep r, int kind, int to, int slot) {
        post(kind, r.id, to, r.view, null, 0, slot, null, null, null);
    }

    private List<Integer> others(Rep r) {
        List<Integer> all = new ArrayList<>();
        for (int i = 0; i < n; i++) {
            if (i != r.id) {
                all.add(i);
            }
        }
        return all;
    }

    private void simpleAll(Rep r, int kind, int slot) {
        for (int o : others(r)) {
            simple(r, kind, o, slot);
        }
    }

    private void stamp(Cli c) {
        c.stamped = time;
        if (seqUp) {
            count++;
            for (int i = 0; i < n; i++) {
                post(0, NONE, i, new View(0, session), null, 0, count, c.request, null, null);
            }
        }
    }

    int request(int client, int kind, int key, int word) {
        if (client < 0 || client > 3 || key < 0 || key > 7) {
            throw new IndexOutOfBoundsException();
        }
        if (kind < 0 || kind > 2) {
            throw new IllegalArgumentException();
        }
        Cli c = clis.get(client);
        if (c.open) {
            throw new IllegalStateException();
        }
        c.count++;
        c.request = new int[] {client, c.count, kind, key, word};
        c.open = true;
        c.spots.clear();
        stamp(c);
        return c.count;
    }

    void again(int client) {
        if (client < 0 || client > 3) {
            throw new IndexOutOfBoundsException();
        }
        if (!clis.get(client).open) {
            throw new IllegalStateException();
        }
        stamp(clis.get(client));
    }

    private Msg out(int number) {
        for (Msg m : air) {
            if (m.number() == number) {
                air.remove(m);
                return m;
            }
        }
        throw new IllegalArgumentException();
    }

    void deliver(int number) {
        bring(out(number));
    }

    void lose(int number) {
        out(number);
        lost++;
    }

    int flow(int k) {
        if (k < 0 || k > 40) {
            throw new IllegalArgumentException();
        }
        int done = 0;
        for (; done < k && !air.isEmpty(); done++) {
            bring(air.remove(0));
        }
        return done;
    }

    private Rep rep(int i) {
        if (i < 0 || i >= n) {
            throw new IndexOutOfBoundsException();
        }
        return reps.get(i);
    }

    private Rep upRep(int i) {
        Rep r = rep(i);
        if (r.down) {
            throw new IllegalStateException();
        }
        return r;
    }

    void down(int i) {
        Rep r = upRep(i);
        if (reps.stream().filter(x -> x.down).count() >= f) {
            throw new IllegalStateException();
        }
        r.down = true;
        r.forget();
    }

    void up(int i) {
        Rep r = rep(i);
        if (!r.down) {
            throw new IllegalStateException();
        }
        r.down = false;
        r.heard = time;
    }

    void suspect(int i) {
        Rep r = upRep(i);
        turns(r, r.view.nextLead());
    }

    int nudge(int i) {
        int before = sent;
        nudges(upRep(i));
        return sent - before;
    }

    private void nudges(Rep r) {
        if (r.status == 1) {
            r.asked = time;
            simpleAll(r, 3, r.log.size());
        } else if (r.status == 2) {
            r.asked = time;
            tellTurns(r);
        } else if (!leads(r) && !r.held.isEmpty()) {
            r.asked = time;
            simple(r, 1, leader(r.view), r.log.size() + 1);
        }
    }

    void sync(int i) {
        Rep r = upRep(i);
        if (!leads(r) || r.status != 0) {
            throw new IllegalStateException();
        }
        syncs(r);
    }

    private void syncs(Rep r) {
        r.sentSync = time;
        for (int o : others(r)) {
            post(5, r.id, o, r.view, null, 0, 0, null, r.log, null);
        }
    }

    int tick(int k) {
        if (k < 0 || k > 40) {
            throw new IllegalArgumentException();
        }
        int before = sent;
        for (int i = 0; i < k; i++) {
            oneTick();
        }
        return sent - before;
    }

    int calm(int k) {
        if (k < 0 || k > 20) {
            throw new IllegalArgumentException();
        }
        int before = accepteds.size();
        for (int i = 0; i < k; i++) {
            oneTick();
            for (Msg m : new ArrayList<>(air)) {
                air.remove(m);
                bring(m);
            }
        }
        return accepteds.size() - before;
    }

    private void oneTick() {
        time++;
        if (!seqUp && time - failed >= t) {
            install();
        }
        for (Rep r : reps) {
            if (!r.down) {
                tickOf(r);
            }
        }
        for (Cli c : clis) {
            if (c.open && time - c.stamped >= 2 * t) {
                stamp(c);
            }
        }
    }

    private void tickOf(Rep r) {
        if (r.status == 2 && time - r.turned >= 4 * t) {
            turns(r, r.view.nextLead());
            return;
        }
        if (r.status >= 1 && time - r.asked >= t) {
            nudges(r);
            return;
        }
        if (leads(r) && r.status != 2 && time - r.spoke >= t) {
            r.spoke = time;
            simpleAll(r, 12, 0);
            return;
        }
        if (leads(r) && r.status == 0 && r.log.size() > r.point && time - r.sentSync >= 4 * t) {
            syncs(r);
            return;
        }
        if (!leads(r) && r.status == 0 && time - r.heard >= 3 * t) {
            turns(r, r.view.nextLead());
            return;
        }
        if (!leads(r) && r.status == 0 && !r.held.isEmpty() && time - r.asked >= t) {
            nudges(r);
        }
    }

    boolean fail() {
        if (seqUp) {
            seqUp = false;
            failed = time;
            return true;
        }
        return false;
    }

    int install() {
        seqUp = true;
        count = 0;
        return ++session;
    }

    private void turns(Rep r, View to) {
        r.view = to;
        r.status = 2;
        r.forget();
        r.synced = 0;
        r.asked = time;
        r.turned = time;
        tellTurns(r);
    }

    private void tellTurns(Rep r) {
        simpleAll(r, 8, 0);
        if (!leads(r)) {
            post(9, r.id, leader(r.view), r.view, r.last, r.base, 0, null, r.log, null);
        }
    }

    private void bring(Msg m) {
        if (m.kind() == 11) {
            bringReply(m);
            return;
        }
        Rep r = reps.get(m.to());
        if (r.down) {
            lost++;
            return;
        }
        if (m.kind() == 0) {
            stamped(r, m);
            return;
        }
        boolean same = m.view().equals(r.view);
        if (same && m.from() == leader(r.view)) {
            r.heard = time;
        }
        if (m.kind() == 8 || m.kind() == 12) {
            joins(r, m.view());
        } else if (m.kind() == 9) {
            turned(r, m);
        } else if (m.kind() == 10) {
            if (r.view.behind(m.view()) || same && r.status == 2) {
                r.view = m.view();
                r.base = m.base();
                r.log = new ArrayList<>(m.log());
                normal(r);
            }
        } else if (same) {
            inView(r, m);
        }
    }

    private void normal(Rep r) {
        r.last = r.view;
        r.status = 0;
        r.forget();
        r.synced = 0;
        r.heard = time;
    }

    private void joins(Rep r, View w) {
        if (!w.equals(r.view) && !w.behind(r.view)) {
            turns(r, w.joined(r.view));
        }
    }

    private void stamped(Rep r, Msg m) {
        int s = m.view().s();
        if (s > r.view.s()) {
            turns(r, new View(r.view.l(), s));
        } else if (s == r.view.s() && r.status != 2 && r.base + m.slot() > r.log.size()
                && !r.held.containsKey(m.slot()) && r.held.size() < 8) {
            r.held.put(m.slot(), m.request());
            if (r.status == 0) {
                takes(r);
            }
        }
    }

    private Run runOf(Rep r) {
        int end = leads(r) && r.status != 2 ? r.log.size() : Math.min(r.point, r.log.size());
        Run run = new Run();
        r.log.subList(0, end).forEach(run::execute);
        return run;
    }

    private void takes(Rep r) {
        boolean leads = leads(r);
        while (r.log.size() < 100 && r.held.containsKey(r.log.size() + 1 - r.base)) {
            int[] q = r.held.remove(r.log.size() + 1 - r.base);
            r.log.add(q);
            Run run = runOf(r);
            if (!leads) {
                post(11, r.id, q[0], r.view, null, 0, r.log.size(), q, null, null);
            } else if (run.numbers[q[0]] == q[1]) {
                post(11, r.id, q[0], r.view, null, 0, r.log.size(), q, null, run.answers[q[0]]);
            }
        }
        if (r.held.isEmpty() || r.log.size() >= 100) {
            return;
        }
        r.asked = time;
        if (leads) {
            r.log.add(null);
            r.status = 1;
            r.gapReplies.clear();
            simpleAll(r, 3, r.log.size());
        } else {
            simple(r, 1, leader(r.view), r.log.size() + 1);
        }
    }

    private void inView(Rep r, Msg m) {
        boolean leads = leads(r);
        int size = r.log.size();
        int slot = m.slot();
        switch (m.kind()) {
            case 1 -> {
                if (leads && r.status != 2 && slot <= size) {
                    int[] q = r.log.get(slot - 1);
                    post(q == null ? 3 : 2, r.id, m.from(), r.view, null, 0, slot, q, null, null);
                }
            }
            case 2 -> {
                if (r.status == 0 && slot == size + 1) {
                    r.held.put(slot - r.base, m.request());
                    takes(r);
                }
            }
            case 3 -> gapCommit(r, slot, size, leads);
            case 4 -> {
                if (leads && r.status == 1 && slot == size) {
                    r.gapReplies.add(m.from());
                    if (r.gapReplies.size() >= f) {
                        r.status = 0;
                        takes(r);
                    }
                }
            }
            case 5 -> {
                int k = m.log().size();
                if (!leads && r.status == 0 && size >= k) {
                    List<int[]> log = new ArrayList<>(m.log());
                    log.addAll(r.log.subList(k, size));
                    r.log = log;
                    r.synced = Math.max(r.synced, k);
                    simple(r, 6, leader(r.view), k);
                }
            }
            case 6 -> {
                if (leads && r.status != 2 && slot > r.point) {
                    if (r.syncM != slot) {
                        r.syncReplies.clear();
                        r.syncM = slot;
                    }
                    r.syncReplies.add(m.from());
                    if (r.syncReplies.size() >= f) {
                        r.point = slot;
                        simpleAll(r, 7, slot);
                    }
                }
            }
            case 7 -> {
                if (!leads && r.status != 2 && slot > r.point && r.synced >= slot) {
                    r.point = slot;
                }
            }
            default -> throw new AssertionError();
        }
    }

    private void gapCommit(Rep r, int slot, int size, boolean leads) {
        if (leads || r.status != 0) {
            return;
        }
        if (slot <= size) {
            r.log.set(slot - 1, null);
            simple(r, 4, leader(r.view), slot);
        } else if (slot == size + 1 && size < 100) {
            r.held.remove(slot - r.base);
            r.log.add(null);
            simple(r, 4, leader(r.view), slot);
            takes(r);
        }
    }

    private void turned(Rep r, Msg m) {
        joins(r, m.view());
        if (!m.view().equals(r.view) || !leads(r)) {
            return;
        }
        if (r.status != 2) {
            post(10, r.id, m.from(), r.view, null, r.base, 0, null, r.log, null);
            return;
        }
        r.turneds.put(m.from(), new Turned(m.last(), m.base(), m.log()));
        if (r.turneds.size() >= f) {
            merges(r);
        }
    }

    private void merges(Rep r) {
        List<Turned> all = new ArrayList<>();
        all.add(new Turned(r.last, r.base, r.log));
        all.addAll(r.turneds.values());
        View top = r.last;
        for (Turned x : all) {
            View v = x.last();
            if (v.s() > top.s() || v.s() == top.s() && v.l() > top.l()) {
                top = v;
            }
        }
        View best = top;
        all.removeIf(x -> !x.last().equals(best));
        int length = all.stream().mapToInt(x -> x.log().size()).max().orElse(0);
        List<int[]> log = new ArrayList<>();
        for (int i = 0; i < length; i++) {
            int at = i;
            List<int[]> here = new ArrayList<>();
            all.stream().filter(x -> x.log().size() > at).forEach(x -> here.add(x.log().get(at)));
            log.add(here.contains(null) ? null : here.get(0));
        }
        r.base = best.s() == r.view.s() ? all.get(0).base() : length;
        r.log = log;
        normal(r);
        for (int o : others(r)) {
            post(10, r.id, o, r.view, null, r.base, 0, null, r.log, null);
        }
    }

    private void bringReply(Msg m) {
        Cli c = clis.get(m.to());
        if (!c.open || m.request()[1] != c.count) {
            return;
        }
        Spot spot = null;
        for (Spot s : c.spots) {
            if (s.view.equals(m.view()) && s.slot == m.slot()) {
                spot = s;
            }
        }
        if (spot == null) {
            if (c.spots.size() == 64) {
                c.spots.remove(0);
            }
            spot = new Spot();
            spot.view = m.view();
            spot.slot = m.slot();
            c.spots.add(spot);
        }
        spot.tellers.add(m.from());
        if (m.from() == leader(m.view())) {
            spot.answer = m.answer();
        }
        if (spot.tellers.size() >= f + 1 && spot.tellers.contains(leader(m.view()))) {
            c.open = false;
            c.accepted = new Accepted(m.to(), c.count, m.view(), m.slot(), spot.answer);
            accepteds.add(c.accepted);
        }
    }

    int replica(int i, int what) {
        if (i < 0 || i >= n || what < 0 || what > 10) {
            return NONE;
        }
        Rep r = reps.get(i);
        return new int[] {r.down ? 1 : 0, r.status, r.view.l(), r.view.s(), r.base, r.log.size(), r.point,
            r.held.size(), r.last.l(), r.last.s(), r.synced}[what];
    }

    int entry(int i, int slot, int what) {
        if (i < 0 || i >= n || slot < 1 || slot > reps.get(i).log.size()) {
            return what == 5 ? 0 : NONE;
        }
        int[] q = reps.get(i).log.get(slot - 1);
        if (what == 0) {
            return q == null ? 0 : 1;
        }
        if (what < 0 || what > 5) {
            return NONE;
        }
        return q == null ? (what == 5 ? 0 : NONE) : q[what - 1];
    }

    int word(int i, int key) {
        return i < 0 || i >= n || key < 0 || key > 7 ? 0 : runOf(reps.get(i)).words[key];
    }

    int client(int i, int what) {
        if (i < 0 || i > 3) {
            return NONE;
        }
        Cli c = clis.get(i);
        boolean ended = c.count > 0 && !c.open;
        return switch (what) {
            case 0 -> c.count;
            case 1 -> c.count == 0 ? 0 : c.open ? 1 : 2;
            case 2 -> ended ? c.accepted.slot() : NONE;
            case 3 -> ended ? c.accepted.view().l() : NONE;
            case 4 -> ended ? c.accepted.view().s() : NONE;
            default -> NONE;
        };
    }

    int answer(int i) {
        return i < 0 || i > 3 || clis.get(i).accepted == null ? 0 : clis.get(i).accepted.answer();
    }

    int about(int what) {
        int[] all = {air.size(), sent, lost, seqUp ? 1 : 0, session, count, accepteds.size(), time, t};
        return what < 0 || what >= all.length ? NONE : all[what];
    }

    int message(int k, int what) {
        if (k < 0 || k >= air.size() || what < 0 || what > 3) {
            return NONE;
        }
        Msg m = air.get(k);
        return new int[] {m.number(), m.kind(), m.from(), m.to()}[what];
    }

    private static void number(List<Integer> to, int value) {
        int rest = value;
        while (rest >= 128) {
            to.add(rest % 128 + 128);
            rest /= 128;
        }
        to.add(rest);
    }

    private static void word(List<Integer> to, int value) {
        to.addAll(List.of(value >>> 24, value >>> 16 & 255, value >>> 8 & 255, value & 255));
    }

    private static void requestBytes(List<Integer> to, int[] q) {
        to.add(q[0]);
        number(to, q[1]);
        to.add(q[2]);
        to.add(q[3]);
        word(to, q[4]);
    }

    private static void logBytes(List<Integer> to, List<int[]> log) {
        number(to, log.size());
        for (int[] q : log) {
            to.add(q == null ? 0 : 1);
            if (q != null) {
                requestBytes(to, q);
            }
        }
    }

    private static void viewBytes(List<Integer> to, View v) {
        number(to, v.l());
        number(to, v.s());
    }

    static int sum(byte[] bytes, int from, int to) {
        CRC32 crc = new CRC32();
        crc.update(bytes, from, to - from);
        return (int) crc.getValue();
    }

    private static byte[] bytesOf(List<Integer> list) {
        byte[] bytes = new byte[list.size()];
        for (int i = 0; i < bytes.length; i++) {
            bytes[i] = (byte) (int) list.get(i);
        }
        return bytes;
    }

    int wire(int k) {
        if (k < 0 || k >= air.size()) {
            return NONE;
        }
        Msg m = air.get(k);
        List<Integer> b = new ArrayList<>();
        b.addAll(List.of(m.kind(), m.from() == NONE ? 255 : m.from(), m.kind() == 11 ? 16 + m.to() : m.to()));
        if (m.kind() == 0) {
            number(b, m.view().s());
        } else {
            viewBytes(b, m.view());
        }
        switch (m.kind()) {
            case 0, 2 -> {
                number(b, m.slot());
                requestBytes(b, m.request());
            }
            case 1, 3, 4, 6, 7 -> number(b, m.slot());
            case 5 -> logBytes(b, m.log());
            case 9 -> {
                viewBytes(b, m.last());
                number(b, m.base());
                logBytes(b, m.log());
            }
            case 10 -> {
                number(b, m.base());
                logBytes(b, m.log());
            }
            case 11 -> {
                number(b, m.slot());
                number(b, m.request()[1]);
                b.add(m.answer() == null ? 0 : 1);
                if (m.answer() != null) {
                    word(b, m.answer());
                }
            }
            default -> { }
        }
        word(b, sum(bytesOf(b), 0, b.size()));
        out = bytesOf(b);
        return out.length;
    }

    int image(int i) {
        Rep r = rep(i);
        byte[] all = new byte[2560];
        int[] head = {79, 82, 87, 75, r.id, r.status};
        for (int k = 0; k < head.length; k++) {
            all[k] = (byte) head[k];
        }
        int[] words = {r.view.l(), r.view.s(), r.last.l(), r.last.s(), r.base, r.point, r.synced, r.log.size()};
        for (int k = 0; k < words.length; k++) {
            set(all, 8 + 4 * k, words[k]);
        }
        for (int k = 0; k < r.log.size(); k++) {
            int[] q = r.log.get(k);
            int at = 512 * (1 + k / 25) + 16 * (k % 25);
            if (q != null) {
                all[at] = 1;
                all[at + 1] = (byte) q[0];
                all[at + 2] = (byte) q[2];
                all[at + 3] = (byte) q[3];
                set(all, at + 4, q[1]);
                set(all, at + 8, q[4]);
            }
        }
        for (int k = 0; k < 5; k++) {
            set(all, 512 * k + 508, sum(all, 512 * k, 512 * k + 508));
        }
        out = all;
        return all.length;
    }

    private static void set(byte[] all, int at, int word) {
        for (int k = 0; k < 4; k++) {
            all[at + k] = (byte) (word >>> 24 - 8 * k);
        }
    }

    int output(int i) {
        return i < 0 || i >= out.length ? NONE : out[i] & 255;
    }

    boolean put(long v, int k) {
        if (k < 0 || k > 8 || tape.length + k > 1500) {
            return false;
        }
        byte[] longer = Arrays.copyOf(tape, tape.length + k);
        for (int i = 0; i < k; i++) {
            longer[tape.length + i] = (byte) (v >>> 8 * (k - 1 - i));
        }
        tape = longer;
        return true;
    }

    int take(int i, int bit) {
        tape = Arrays.copyOf(out, Math.min(out.length, 1500));
        if (i >= 0 && i < tape.length && bit >= 0 && bit <= 7) {
            tape[i] ^= (byte) (1 << bit);
        }
        return tape.length;
    }

    /** The first fault that is met, thrown through the reading. */
    private static final class Fault extends RuntimeException {
        private static final long serialVersionUID = 1L;
        final int kind;
        final int place;

        Fault(int kind, int place) {
            this.kind = kind;
            this.place = place;
        }
    }

    private int at;

    int untake() {
        told = new ArrayList<>();
        faultKind = 0;
        faultPlace = NONE;
        at = 0;
        byte[] read = tape;
        try {
            read(read);
        } catch (Fault e) {
            faultKind = e.kind;
            faultPlace = e.place;
            told = new ArrayList<>();
            throw new IllegalArgumentException();
        } finally {
            tape = new byte[0];
        }
        return told.get(0);
    }

    private void read(byte[] b) {
        int kind = oneByte(b, "0123456789abc");
        told.add(kind);
        int from = raw(b);
        if (from > 6 && from != 255) {
            throw new Fault(2, at - 1);
        }
        told.add(from);
        int to = raw(b);
        if (to > 6 && (to < 16 || to > 19)) {
            throw new Fault(2, at - 1);
        }
        told.add(to);
        for (char c : BODIES[kind].toCharArray()) {
            switch (c) {
                case 'n' -> told.add(varint(b));
                case 'R' -> readRequest(b);
                case 'L' -> {
                    int first = at;
                    int size = varint(b);
                    if (size > 100) {
                        throw new Fault(4, first);
                    }
                    told.add(size);
                    for (int i = 0; i < size; i++) {
                        told.add(oneByte(b, "01"));
                        if (told.get(told.size() - 1) == 1) {
                            readRequest(b);
                        }
                    }
                }
                default -> {
                    told.add(varint(b));
                    told.add(oneByte(b, "01"));
                    if (told.get(told.size() - 1) == 1) {
                        told.add(fourBytes(b));
                    }
                }
            }
        }
        int first = at;
        if (fourBytes(b) != sum(b, 0, first)) {
            throw new Fault(5, first);
        }
        if (at < b.length) {
            throw new Fault(6, at);
        }
    }

    private void readRequest(byte[] b) {
        told.add(oneByte(b, "0123"));
        told.add(varint(b));
        told.add(oneByte(b, "012"));
        told.add(oneByte(b, "01234567"));
        told.add(fourBytes(b));
    }

    private int raw(byte[] b) {
        if (at >= b.length) {
            throw new Fault(1, b.length);
        }
        return b[at++] & 255;
    }

    private int oneByte(byte[] b, String allowed) {
        int v = raw(b);
        if (v >= allowed.length()) {
            throw new Fault(2, at - 1);
        }
        return v;
    }

    private int fourBytes(byte[] b) {
        return raw(b) << 24 | raw(b) << 16 | raw(b) << 8 | raw(b);
    }

    private int varint(byte[] b) {
        int first = at;
        List<Integer> digits = new ArrayList<>();
        do {
            if (digits.size() == 5) {
                throw new Fault(3, first);
            }
            digits.add(raw5(b, digits.size(), first));
        } while (digits.get(digits.size() - 1) >= 128);
        long value = 0;
        for (int i = digits.size() - 1; i >= 0; i--) {
            value = value * 128 + digits.get(i) % 128;
        }
        List<Integer> shortest = new ArrayList<>();
        if (value <= Integer.MAX_VALUE) {
            number(shortest, (int) value);
        }
        if (!shortest.equals(digits)) {
            throw new Fault(3, first);
        }
        return (int) value;
    }

    private int raw5(byte[] b, int read, int first) {
        int v = raw(b);
        if (read == 4 && v >= 128) {
            throw new Fault(3, first);
        }
        return v;
    }

    int fault(int what) {
        return what == 0 ? faultKind : what == 1 ? faultPlace : NONE;
    }

    int told(int i) {
        return i < 0 || i >= told.size() ? 0 : told.get(i);
    }

    int tolds() {
        return told.size();
    }

    int broken() {
        int bad = 0;
        for (Accepted a : accepteds.subList(Math.max(0, accepteds.size() - 200), accepteds.size())) {
            boolean fails = false;
            for (Rep r : reps) {
                if (leads(r) && r.status != 2 && (a.view().equals(r.view) || a.view().behind(r.view))) {
                    fails |= breaks(r, a);
                }
            }
            bad += fails ? 1 : 0;
        }
        return bad;
    }

    private static boolean is(int[] q, Accepted a) {
        return q != null && q[0] == a.client() && q[1] == a.number();
    }

    private boolean breaks(Rep r, Accepted a) {
        if (a.slot() > r.log.size() || !is(r.log.get(a.slot() - 1), a)) {
            return true;
        }
        Run run = new Run();
        for (int[] q : r.log) {
            Integer answer = run.execute(q);
            if (is(q, a)) {
                return answer != null && answer != a.answer();
            }
        }
        throw new AssertionError();
    }
}
