/** Promise 10: tick. */
public final class Promise10Test {
    private static final Due DUE = new Due();

    public static void main(String[] args) {
        Node x = new Node(1, 3);
        for (int n : new int[] {-1, 51, Integer.MIN_VALUE, Integer.MAX_VALUE}) {
            DUE.is("tick(" + n + ")", x.tick(n), ChainPeers.NONE);
            DUE.is("TIME stays", x.state(3), 0);
        }
        DUE.is("tick(0)", x.tick(0), 0);
        DUE.is("TIME", x.state(3), 0);
        DUE.is("tick(50)", x.tick(50), 0);
        DUE.is("TIME", x.state(3), 50);
        deadline();
        several();
        atDifferentTicks();
        bans();
        DUE.end();
    }

    private static void deadline() {
        Node x = new Node(1, 3);
        x.tick(4);
        Talk.ready(x, 2, 1, 9);
        x.work();
        DUE.is("at the DEADLINE", x.tick(3), 0);
        DUE.is("it is there still", x.peer(2, Talk.REQUEST), 1);
        DUE.is("tick(0)", x.tick(0), 0);
        DUE.is("below TIME", x.tick(1), 1);
        DUE.is("it is gone", x.peer(2, Talk.REQUEST), 0);
        DUE.is("a FAULT of 1", x.peer(2, Talk.SCORE), -1);
        DUE.is("READY", x.peer(2, Talk.STATE), Talk.READY);
        DUE.is("its message stays", x.peer(2, Talk.OUTBOX), 1);
        DUE.is("only once", x.tick(50), 0);
        DUE.is("SCORE", x.peer(2, Talk.SCORE), -1);
    }

    private static void several() {
        Node x = new Node(1, 3);
        Talk.ready(x, 0, 1, 9);
        Talk.ready(x, 3, 1, 9);
        x.work();
        x.tick(2);
        Talk.ready(x, 1, 1, 9);
        x.work();
        DUE.is("two are late, one is not", x.tick(2), 2);
        DUE.is("peer 1", x.peer(1, Talk.REQUEST), 3);
        DUE.is("then it is", x.tick(2), 1);
        for (int p : new int[] {0, 1, 3}) {
            DUE.is("SCORE of " + p, x.peer(p, Talk.SCORE), -1);
        }
    }

    /** One call loses what falls due at any of its ticks. */
    private static void atDifferentTicks() {
        Node x = new Node(1, 3);
        for (int p = 0; p < 4; p++) {
            Talk.ready(x, p, 1, 9);
            if (p != 2) {
                x.work();
                DUE.is("not yet", x.tick(1), 0);
            }
        }
        DUE.is("two at one tick, the others at ticks of their own", x.tick(50), 4);
        for (int p = 0; p < 4; p++) {
            DUE.is("request of " + p, x.peer(p, Talk.REQUEST), 0);
            DUE.is("SCORE of " + p, x.peer(p, Talk.SCORE), -1);
        }
        DUE.is("TIME", x.state(3), 53);
    }

    private static void bans() {
        Node x = new Node(1, 1);
        Talk.ready(x, 0, 1, 9);
        for (int score = -1; score >= -4; score--) {
            x.work();
            DUE.is("late", x.tick(2), 1);
            DUE.is("SCORE", x.peer(0, Talk.SCORE), score);
        }
        DUE.is("BANNED", x.peer(0, Talk.STATE), Talk.BANNED);
        DUE.is("outbox", x.peer(0, Talk.OUTBOX), 0);
        DUE.is("work", x.work(), 0);
    }
}
