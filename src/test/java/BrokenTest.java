/**
 * Promise 32. The rules of the document keep to what was accepted, so broken() answers 0 by them:
 * to see it answer more, entries are taken out of a log from behind the object's back.
 */
public final class BrokenTest {
    public static void main(String[] args) {
        whole();
        lostEntries();
        anotherAnswer();
        whoCounts();
        staleLeader();
        repeated();
        Check.end();
    }

    private static void spoil(OrderedWorks x, int replica, int slot) {
        Behind.slots(x, replica)[slot - 1] = null;
    }

    private static OrderedWorks withFour() {
        OrderedWorks x = new OrderedWorks(0, 0);
        for (int c = 0; c < 4; c++) {
            Air.whole(x, c, 2, 0, 10);
        }
        return x;
    }

    private static void whole() {
        OrderedWorks x = new OrderedWorks(0, 0);
        Check.due("nothing accepted", x.broken(), 0);
        x = withFour();
        Check.due("held to", x.broken(), 0);
        x.suspect(1);
        Check.due("while some change", x.broken(), 0);
        Air.settle(x);
        Check.due("in the next view", x.broken(), 0);
        x.install();
        Air.whole(x, 0, 1, 0, 3);
        x.again(0);
        Air.settle(x);
        Check.due("in the next session", x.broken(), 0);
        Check.due("five", x.about(6), 5);
    }

    private static void lostEntries() {
        OrderedWorks x = withFour();
        spoil(x, 0, 4);
        Check.due("the last one", x.broken(), 1);
        spoil(x, 0, 3);
        Check.due("two", x.broken(), 2);
        spoil(x, 0, 1);
        Check.due("three, and the second's answer is another one", x.broken(), 4);
        Check.due("asking changes nothing", x.broken(), 4);
        OrderedWorks y = withFour();
        Object[] slots = Behind.slots(y, 0);
        Object third = slots[2];
        slots[2] = slots[3];
        slots[3] = third;
        Check.due("in another slot", y.broken(), 2);
    }

    private static void anotherAnswer() {
        OrderedWorks x = new OrderedWorks(0, 0);
        x.request(0, 1, 0, 5);
        for (int r = 0; r < 3; r++) {
            x.deliver(r);
        }
        Air.clear(x);
        Air.whole(x, 1, 0, 0, 0);
        Check.due("one accepted", x.about(6), 1);
        Check.due("its answer", x.answer(1), 5);
        Check.due("held to", x.broken(), 0);
        spoil(x, 0, 1);
        Check.due("the same request in its slot, but another answer", x.broken(), 1);
    }

    private static void whoCounts() {
        OrderedWorks x = withFour();
        spoil(x, 1, 2);
        Check.due("one that does not lead", x.broken(), 0);
        spoil(x, 0, 2);
        Check.due("one that leads", x.broken(), 3);
        x.down(0);
        Check.due("down or not", x.broken(), 3);
        x.up(0);
        x.suspect(0);
        x.suspect(0);
        x.suspect(0);
        Check.due("it leads again, in CHANGE", x.replica(0, 2), 3);
        Check.due("not in CHANGE", x.broken(), 0);
        OrderedWorks y = withFour();
        y.suspect(1);
        y.suspect(2);
        Air.deliver(y, Air.TURNED, 2, 1);
        Check.due("1 leads (1, 1)", y.replica(1, 1), 0);
        spoil(y, 1, 4);
        Check.due("the accepted one's view is behind", y.broken(), 1);
        OrderedWorks z = withFour();
        z.request(0, 0, 1, 0);
        z.again(0);
        z.lose(Air.number(z, Air.STAMPED, -1, 0));
        Air.deliver(z, Air.STAMPED, -1, 0);
        Check.due("in GAP", z.replica(0, 1), 1);
        spoil(z, 0, 4);
        Check.due("one in GAP counts", z.broken(), 1);
    }

    /** A leader of a view that is behind the accepted one's has not to know of it. */
    private static void staleLeader() {
        OrderedWorks x = new OrderedWorks(0, 0);
        x.suspect(1);
        x.suspect(2);
        Air.deliver(x, Air.TURNED, 2, 1);
        Air.deliver(x, Air.START, 1, 2);
        Air.clear(x);
        x.request(0, 1, 0, 5);
        x.lose(Air.number(x, Air.STAMPED, -1, 0));
        Air.settle(x);
        Check.due("accepted", x.client(0, 1), 2);
        Check.due("in view (1, 1)", x.client(0, 3), 1);
        Check.due("0 leads (0, 1) still", x.replica(0, 1) + x.replica(0, 2), 0);
        Check.due("without it", x.replica(0, 5), 0);
        Check.due("held to", x.broken(), 0);
    }

    /** A request that stands twice is executed where it stands first. */
    private static void repeated() {
        OrderedWorks x = new OrderedWorks(0, 0);
        x.request(0, 2, 0, 5);
        for (int r = 0; r < 3; r++) {
            x.deliver(r);
        }
        Air.clear(x);
        x.request(1, 1, 0, 50);
        for (int r = 0; r < 3; r++) {
            x.deliver(3 + 3 + r);
        }
        Air.clear(x);
        x.again(0);
        Air.settle(x);
        Check.due("accepted in slot 3", x.client(0, 2), 3);
        Check.due("with the first one's answer", x.answer(0), 0);
        Check.due("held to", x.broken(), 0);
        spoil(x, 0, 1);
        Check.due("it stands in slot 3 first then, with answer 50", x.broken(), 1);
    }
}
