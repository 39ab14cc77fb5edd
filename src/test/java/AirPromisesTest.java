/** Promises 4, 5, 6, 21 and 22: what lies in the air, and how it leaves it. */
public final class AirPromisesTest {
    public static void main(String[] args) {
        promise4();
        promise5();
        promise6();
        promise21();
        promise22();
        fullAir();
        Check.end();
    }

    private static void promise4() {
        OrderedWorks x = new OrderedWorks(0, 0);
        Check.thrown("nothing there", IllegalArgumentException.class, () -> x.deliver(0));
        x.request(0, 1, 2, 9);
        Check.thrown("not yet sent", IllegalArgumentException.class, () -> x.deliver(3));
        Check.thrown("below 0", IllegalArgumentException.class, () -> x.deliver(-1));
        x.deliver(1);
        Check.due("it came", x.replica(1, 5), 1);
        Check.due("to that one alone", x.replica(0, 5), 0);
        Check.thrown("gone", IllegalArgumentException.class, () -> x.deliver(1));
        Check.due("a REPLY came by it", x.about(1), 4);
        Check.due("its number is 3", x.message(2, 0), 3);
        x.down(2);
        x.deliver(2);
        Check.due("a replica that is down has none", x.replica(2, 5), 0);
        Check.due("it is lost", x.about(2), 1);
        Check.due("and gone", x.about(0), 2);
        x.deliver(3);
        Check.due("one REPLY is not enough", x.client(0, 1), 1);
        x.deliver(0);
        x.deliver(4);
        Check.due("the leader's and another one's are", x.client(0, 1), 2);
    }

    private static void promise5() {
        OrderedWorks x = new OrderedWorks(0, 0);
        Check.thrown("nothing there", IllegalArgumentException.class, () -> x.lose(0));
        x.request(0, 1, 2, 9);
        x.lose(1);
        Check.due("lost", x.about(2), 1);
        Check.due("gone", x.about(0), 2);
        Check.due("the others stay in order", x.message(1, 0), 2);
        Check.due("nothing came of it", x.replica(1, 5), 0);
        Check.thrown("lost already", IllegalArgumentException.class, () -> x.lose(1));
        Check.thrown("not yet sent", IllegalArgumentException.class, () -> x.lose(3));
        x.deliver(0);
        Check.thrown("delivered already", IllegalArgumentException.class, () -> x.lose(0));
    }

    private static void promise6() {
        OrderedWorks x = new OrderedWorks(0, 0);
        Check.thrown("-1", IllegalArgumentException.class, () -> x.flow(-1));
        Check.thrown("41", IllegalArgumentException.class, () -> x.flow(41));
        Check.due("nothing there", x.flow(40), 0);
        x.request(0, 1, 2, 9);
        Check.due("0", x.flow(0), 0);
        x.down(0);
        Check.due("one, to a replica that is down", x.flow(1), 1);
        Check.due("that is lost", x.about(2), 1);
        Check.due("with what comes by it", x.flow(40), 4);
        Check.due("all is gone", x.about(0), 0);
        OrderedWorks y = new OrderedWorks(2, 0);
        for (int i = 0; i < 4; i++) {
            y.request(i, 0, 0, 0);
        }
        Check.due("no more than n", y.flow(40), 40);
        Check.due("28 and as many replies", y.about(1), 56);
        Check.due("what is left", y.about(0), 16);
    }

    private static void promise21() {
        OrderedWorks x = new OrderedWorks(0, 2);
        x.request(0, 0, 0, 0);
        x.request(1, 0, 0, 0);
        x.lose(0);
        x.down(1);
        x.deliver(1);
        x.tick(2);
        int[] due = {4, 6, 2, 1, 1, 2, 0, 2, 5};
        for (int what = 0; what < due.length; what++) {
            Check.due("about " + what, x.about(what), due[what]);
        }
        x.fail();
        Check.due("not up", x.about(3), 0);
        Check.due("its session stays", x.about(4), 1);
        Check.due("its count stays", x.about(5), 2);
        x.install();
        Check.due("up", x.about(3), 1);
        Check.due("session", x.about(4), 2);
        Check.due("count", x.about(5), 0);
        Check.due("another what", x.about(9), -1);
        Check.due("another what", x.about(-1), -1);
        OrderedWorks y = new OrderedWorks(0, 0);
        Air.whole(y, 0, 0, 0, 0);
        Air.whole(y, 3, 0, 0, 0);
        Check.due("accepted", y.about(6), 2);
    }

    private static void promise22() {
        OrderedWorks x = new OrderedWorks(0, 0);
        Check.due("nothing there", x.message(0, 0), -1);
        x.request(3, 0, 0, 0);
        x.deliver(1);
        int[][] due = {{0, 0, -1, 0}, {2, 0, -1, 2}, {3, 11, 1, 3}};
        for (int k = 0; k < due.length; k++) {
            for (int what = 0; what < 4; what++) {
                Check.due("message " + k + " " + what, x.message(k, what), due[k][what]);
            }
            Check.due("another what", x.message(k, 4), -1);
            Check.due("another what", x.message(k, -1), -1);
        }
        for (int what = 0; what < 4; what++) {
            Check.due("behind the last", x.message(3, what), -1);
            Check.due("below 0", x.message(-1, what), -1);
        }
        x.tick(3);
        Check.due("PING is 12", x.message(3, 1), 12);
        x.suspect(2);
        Check.due("TURN is 8", x.message(5, 1), 8);
        Check.due("TURNED is 9", x.message(7, 1), 9);
        Check.due("from", x.message(7, 2), 2);
        Check.due("to", x.message(7, 3), 1);
    }

    /** At most 200 lie there; what is sent beyond is lost, but has its number. */
    private static void fullAir() {
        OrderedWorks x = new OrderedWorks(2, 0);
        x.request(0, 2, 0, 1);
        for (int i = 0; i < 27; i++) {
            x.again(0);
        }
        Check.due("in the air", x.about(0), 196);
        x.again(0);
        Check.due("no more than 200", x.about(0), 200);
        Check.due("sent", x.about(1), 203);
        Check.due("lost", x.about(2), 3);
        Check.due("the last", x.message(199, 0), 199);
        Check.due("none behind it", x.message(200, 0), -1);
        Check.thrown("a lost one", IllegalArgumentException.class, () -> x.deliver(200));
        Check.due("nudge and tick count such", x.tick(3), 6);
        Check.due("lost", x.about(2), 9);
        x.deliver(0);
        Check.due("its place is free for what comes of it", x.about(0), 200);
        Check.due("REPLY", x.message(199, 1), Air.REPLY);
        Check.due("its number", x.message(199, 0), 209);
        Check.due("lost", x.about(2), 9);
        x.deliver(14);
        Check.due("number 3 ahead of 2: a GAP", x.replica(0, 1), 1);
        Check.due("one has the place, five are lost", x.about(2), 14);
        Check.due("to the first of the others", x.message(199, 3), 1);
        x.suspect(6);
        Check.due("TURN and TURNED, all lost", x.about(2), 21);
    }
}
