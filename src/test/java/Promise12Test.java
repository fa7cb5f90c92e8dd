/** Promise 12: peer. */
public final class Promise12Test {
    private static final Due DUE = new Due();

    public static void main(String[] args) {
        Node x = new Node(1, 5);
        x.seal(1, 8, 1);
        Talk.ready(x, 1, 1, 300);
        x.work();
        Talk.give(x, 1, Code.headers(1, new int[] {5, 2, 9, 9, 9}));
        x.work();
        Talk.give(x, 1, Code.hello(1, 1));
        is(x, 1, 2, -2, 300, 1, 2, 2);
        x.open(2);
        is(x, 2, 1, 0, 0, 0, 0, 1);
        is(x, 0, 0, 0, 0, 0, 0, 0);
        Talk.give(x, 1);
        is(x, 1, 3, -6, 300, 1, 0, 0);
        for (int which : new int[] {-1, 6, Integer.MIN_VALUE, Integer.MAX_VALUE}) {
            DUE.is("peer(1, " + which + ")", x.peer(1, which), 0);
        }
        for (int p : new int[] {-1, 4, Integer.MIN_VALUE, Integer.MAX_VALUE}) {
            for (int which = -1; which < 7; which++) {
                DUE.is("peer(" + p + ", " + which + ")", x.peer(p, which), 0);
            }
        }
        DUE.end();
    }

    private static void is(Node x, int p, int... want) {
        for (int which = 0; which < 6; which++) {
            DUE.is("peer(" + p + ", " + which + ")", x.peer(p, which), want[which]);
        }
    }
}
