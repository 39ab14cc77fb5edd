/** Promises 1, 2, 3, 19 and 20: a new object, and what clients do and see. */
public final class ClientPromisesTest {
    public static void main(String[] args) {
        promise1();
        promise2();
        promise3();
        promise19();
        promise20();
        Check.end();
    }

    private static int replicas(OrderedWorks x) {
        int n = 0;
        while (n < 20 && x.replica(n, 0) != OrderedWorks.NONE) {
            n++;
        }
        return n;
    }

    private static void promise1() {
        int[][] sizes = {{0, 3}, {1, 5}, {2, 7}, {3, 3}, {-1, 7}, {-2, 5}, {-3, 3},
            {Integer.MIN_VALUE, 5}, {Integer.MAX_VALUE, 5}};
        for (int[] s : sizes) {
            Check.due("replicas of n = " + s[0], replicas(new OrderedWorks(s[0], 0)), s[1]);
        }
        int[][] times = {{0, 3}, {1, 4}, {5, 8}, {6, 3}, {-1, 8}, {-6, 3}, {Integer.MIN_VALUE, 7},
            {Integer.MAX_VALUE, 4}};
        for (int[] t : times) {
            Check.due("T of t = " + t[0], new OrderedWorks(0, t[0]).about(8), t[1]);
        }
        OrderedWorks x = new OrderedWorks(0, 0);
        int[] about = {0, 0, 0, 1, 1, 0, 0, 0, 3};
        for (int what = 0; what < about.length; what++) {
            Check.due("new about " + what, x.about(what), about[what]);
        }
        int[] replica = {0, 0, 0, 1, 0, 0, 0, 0, 0, 1, 0};
        for (int r = 0; r < 3; r++) {
            for (int what = 0; what < replica.length; what++) {
                Check.due("new replica " + what, x.replica(r, what), replica[what]);
            }
            for (int key = 0; key < 8; key++) {
                Check.due("new word", x.word(r, key), 0);
            }
        }
        Check.due("new output", x.output(0), -1);
        Check.due("new tolds", x.tolds(), 0);
        Check.due("new fault", x.fault(0), 0);
        Check.due("new fault's place", x.fault(1), -1);
        Check.due("new broken", x.broken(), 0);
        Check.due("NONE", OrderedWorks.NONE, -1);
    }

    private static void promise2() {
        OrderedWorks x = new OrderedWorks(1, 0);
        Class<?> bounds = IndexOutOfBoundsException.class;
        Check.thrown("client -1", bounds, () -> x.request(-1, 0, 0, 0));
        Check.thrown("client 4", bounds, () -> x.request(4, 0, 0, 0));
        Check.thrown("key -1", bounds, () -> x.request(0, 0, -1, 0));
        Check.thrown("key 8", bounds, () -> x.request(0, 0, 8, 0));
        Check.thrown("key ahead of kind", bounds, () -> x.request(0, 3, 8, 0));
        Check.thrown("kind -1", IllegalArgumentException.class, () -> x.request(0, -1, 0, 0));
        Check.thrown("kind 3", IllegalArgumentException.class, () -> x.request(0, 3, 7, 0));
        Check.due("nothing was sent", x.about(1), 0);
        Check.due("first number", x.request(0, 1, 7, -5), 1);
        Check.due("COUNT", x.about(5), 1);
        Check.due("one to each replica", x.about(0), 5);
        for (int k = 0; k < 5; k++) {
            Check.due("kind", x.message(k, 1), Air.STAMPED);
            Check.due("from the sequencer", x.message(k, 2), -1);
            Check.due("to", x.message(k, 3), k);
            Check.yes("what it tells", Air.tells(x, k).equals("1 1 0 1 1 7 -5"));
        }
        Check.thrown("it is open", IllegalStateException.class, () -> x.request(0, 0, 0, 0));
        Check.thrown("kind ahead of state", IllegalArgumentException.class, () -> x.request(0, 3, 0, 0));
        Check.thrown("key ahead of state", bounds, () -> x.request(0, 0, 9, 0));
        Check.due("another client's first number", x.request(3, 2, 0, 1), 1);
        Air.settle(x);
        Check.due("second number", x.request(0, 0, 0, 0), 2);
        x.fail();
        int sent = x.about(1);
        Check.due("without a sequencer", x.request(3, 0, 0, 0), 2);
        Check.due("it is open all the same", x.client(3, 1), 1);
        Check.due("but nothing is sent", x.about(1), sent);
        Check.due("nor counted", x.about(5), 3);
    }

    private static void promise3() {
        OrderedWorks x = new OrderedWorks(0, 0);
        Check.thrown("client -1", IndexOutOfBoundsException.class, () -> x.again(-1));
        Check.thrown("client 4", IndexOutOfBoundsException.class, () -> x.again(4));
        Check.thrown("none yet", IllegalStateException.class, () -> x.again(0));
        x.request(2, 2, 1, 9);
        x.again(2);
        Check.due("COUNT", x.about(5), 2);
        Check.due("sent", x.about(1), 6);
        Check.yes("the same request", Air.tells(x, 4).equals("1 2 2 1 2 1 9"));
        x.fail();
        x.again(2);
        Check.due("in vain", x.about(1), 6);
        Air.settle(x);
        Check.thrown("accepted", IllegalStateException.class, () -> x.again(2));
        Check.due("executed once", x.word(0, 1), 9);
    }

    private static void promise19() {
        OrderedWorks x = new OrderedWorks(0, 0);
        int[] none = {0, 0, -1, -1, -1, -1};
        for (int what = 0; what < none.length; what++) {
            Check.due("client without requests " + what, x.client(1, what), none[what]);
        }
        x.request(1, 1, 0, 4);
        int[] open = {1, 1, -1, -1, -1, -1};
        for (int what = 0; what < open.length; what++) {
            Check.due("client with an open one " + what, x.client(1, what), open[what]);
        }
        Air.settle(x);
        int[] accepted = {1, 2, 1, 0, 1, -1};
        for (int what = 0; what < accepted.length; what++) {
            Check.due("client with an accepted one " + what, x.client(1, what), accepted[what]);
        }
        x.request(1, 1, 0, 4);
        int[] second = {2, 1, -1, -1, -1, -1};
        for (int what = 0; what < second.length; what++) {
            Check.due("client with a second one open " + what, x.client(1, what), second[what]);
        }
        Air.settle(x);
        x.suspect(1);
        Air.settle(x);
        Check.due("third", x.request(1, 0, 0, 0), 3);
        Air.settle(x);
        int[] third = {3, 2, 3, 1, 1, -1};
        for (int what = 0; what < third.length; what++) {
            Check.due("client in the next view " + what, x.client(1, what), third[what]);
        }
        Check.due("another what", x.client(1, -1), -1);
        for (int what = -1; what < 6; what++) {
            Check.due("no such client", x.client(-1, what), -1);
            Check.due("no such client", x.client(4, what), -1);
        }
    }

    private static void promise20() {
        OrderedWorks x = new OrderedWorks(0, 0);
        Check.due("none yet", x.answer(0), 0);
        Check.due("no such client", x.answer(-1), 0);
        Check.due("no such client", x.answer(4), 0);
        Air.whole(x, 0, 1, 5, 77);
        Check.due("PUT answers what was there", x.answer(0), 0);
        Air.whole(x, 0, 2, 5, 3);
        Check.due("ADD answers what was there", x.answer(0), 77);
        x.request(0, 0, 5, 1000);
        Check.due("while a later one is open", x.answer(0), 77);
        Air.settle(x);
        Check.due("GET answers the word", x.answer(0), 80);
        Air.whole(x, 1, 2, 5, Integer.MAX_VALUE);
        Air.whole(x, 1, 0, 5, 0);
        Check.due("32 bits that run over", x.answer(1), Integer.MAX_VALUE + 80);
        Check.due("GET changed nothing", x.word(0, 5), Integer.MAX_VALUE + 80);
    }
}
