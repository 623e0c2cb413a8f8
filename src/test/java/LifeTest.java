/** "What it is": an object answers as promised up to its 512th call, however much happens in them. */
public final class LifeTest {
    private static final String QUOTE = "An object is used for at most 512 calls after it has been made";
    private static final int MOST_CALLS = 512;

    public static void main(String[] args) {
        longestTime();
        busiestLife();
        errorsAlone();
        Script.end();
    }

    private static void lastCalls(String edge, String beginning, String again, String ending) {
        StringBuilder lines = new StringBuilder(beginning);
        int left = MOST_CALLS - Script.steps(beginning).size() - Script.steps(ending).size();
        for (int call = 0; call < left; call++) {
            lines.append(again);
        }
        String life = lines.append(ending).toString();
        Script.due("the calls of a life", Script.steps(life).size(), MOST_CALLS);
        Sentence.holds(Sentence.WHAT_IT_IS, QUOTE, edge, life);
    }

    private static void longestTime() {
        lastCalls("the longest time that an object can tell", "", "tick(100) = 0;", "time() = 51100");
    }

    /**
     * Every host declares every group, and every port sends a leave-all in every tick. Each of the 16
     * ports then sends 5 messages a tick; each host answers the leave-all of the tick before with 4.
     */
    private static void busiestLife() {
        StringBuilder beginning = new StringBuilder(Networks.FULL_NETWORK);
        for (int host = 0; host < 8; host++) {
            for (int group = 0; group < 4; group++) {
                beginning.append("join(").append(host).append(", ").append(group).append(") = 1;");
            }
        }
        // 2 joins of each of the 24 applicants for each of the 4 groups.
        beginning.append("tick(50) = 192; isSettled() = 1; setTimes(1, 1) = 16; tick(1) = 80;");
        lastCalls("the most messages", beginning.toString(), "tick(100) = 11200;",
                "receivers(0, 3) = 254; missedCount(7, 0) = 0; registrar(2, 1, 3) = IN; isSettled() = 0");
    }

    private static void errorsAlone() {
        lastCalls("refused calls count, but change nothing", Networks.FULL_NETWORK, "addBridge() = FULL;",
                "time() = 0; join(7, 3) = 1; tick(1) = 1; registrar(4, 3, 3) = IN");
    }
}
