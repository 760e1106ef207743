/** Promises 37 to 41: tasks that are placed. */
public final class TaskTests extends Check {
    public static void main(String[] args) {
        promise37Task();
        promise38Traffic();
        promise39Cost();
        promise40Swap();
        promise40SwapOfSeveral();
        promise40SwapOfNone();
        promise41NodeOf();
        end("TaskTests");
    }

    /** A yard of a width and height with a task at each of some nodes. */
    private static Meshyard placed(int width, int height, int... nodes) {
        Meshyard yard = yard(width, height);
        for (int node : nodes) {
            yard.task(node);
        }
        return yard;
    }

    private static void promise37Task() {
        Meshyard yard = yard(3, 1);
        for (int task = 0; task < 8; task++) {
            for (int node : new int[] {-1, 3, Integer.MIN_VALUE, Integer.MAX_VALUE}) {
                raises("no node", NO_SUCH, yard, () -> yard.task(node));
            }
            same("its number", task, yard.task(task % 3));
        }
        raises("a ninth", NOT_NOW, yard, () -> yard.task(0));
        raises("a ninth at no node", NO_SUCH, yard, () -> yard.task(3));
        same("they stay", 1, yard.nodeOf(7));
    }

    private static void promise38Traffic() {
        Meshyard yard = placed(4, 1, 0, 3, 2);
        same("at first", 0, yard.traffic(0, 1, 99));
        same("before", 99, yard.traffic(1, 0, 5));
        same("the same both ways", 5, yard.traffic(0, 1, 0));
        same("none", 0, yard.traffic(0, 1, 7));
        same("of another pair", 0, yard.traffic(1, 2, 1));
        for (int task : new int[] {-1, 3, 8, Integer.MIN_VALUE, Integer.MAX_VALUE}) {
            raises("no task", NO_SUCH, yard, () -> yard.traffic(task, 1, 100));
            raises("no other task", NO_SUCH, yard, () -> yard.traffic(1, task, 100));
        }
        raises("the same", OFF_RANGE, yard, () -> yard.traffic(1, 1, 1));
        for (int much : new int[] {-1, 100, Integer.MIN_VALUE, Integer.MAX_VALUE}) {
            raises("so much", OFF_RANGE, yard, () -> yard.traffic(0, 1, much));
        }
        same("nothing changed", 7, yard.traffic(0, 1, 7));
    }

    private static void promise39Cost() {
        Meshyard yard = yard(4, 4);
        same("of none", 0, yard.cost());
        yard.task(0);
        same("of one", 0, yard.cost());
        yard.task(15);
        same("without traffic", 0, yard.cost());
        yard.traffic(0, 1, 10);
        same("6 steps", 60, yard.cost());
        yard.task(5);
        yard.traffic(1, 2, 3);
        same("and 4 steps", 72, yard.cost());
        yard.traffic(0, 2, 1);
        same("and 2 steps", 74, yard.cost());
        yard.task(5);
        yard.traffic(3, 2, 99);
        same("at one node there are no steps", 74, yard.cost());
        yard.traffic(0, 1, 0);
        same("less", 14, yard.cost());
        Meshyard most = placed(4, 4, 0, 15, 0, 15, 0, 15, 0, 15);
        for (int task = 0; task < 8; task++) {
            for (int other = 0; other < task; other++) {
                most.traffic(task, other, 99);
            }
        }
        same("16 pairs that are 6 steps apart", 16 * 6 * 99, most.cost());
        Meshyard west = placed(4, 4, 12, 3);
        west.traffic(0, 1, 1);
        same("whichever way", 6, west.cost());
    }

    private static void promise40Swap() {
        Meshyard yard = placed(4, 1, 0, 3, 1);
        yard.traffic(0, 1, 10);
        yard.traffic(0, 2, 1);
        // cost 31; tasks 1 and 2 exchanged 13; tasks 0 and 2 exchanged 21; tasks 0 and 1 exchanged 32
        same("by how much", 18, yard.swap());
        same("task 0 stays", 0, yard.nodeOf(0));
        same("task 1", 1, yard.nodeOf(1));
        same("task 2", 3, yard.nodeOf(2));
        same("the cost now", 13, yard.cost());
        // tasks 0 and 1 exchanged 10 + 2
        same("once more", 1, yard.swap());
        same("task 0", 1, yard.nodeOf(0));
        same("task 1", 0, yard.nodeOf(1));
        raises("no more", NONE, yard, () -> yard.swap());
        same("the cost now", 12, yard.cost());
    }

    /** Of the pairs by which the cost falls alike, the one with the lower first task, then the lower second one. */
    private static void promise40SwapOfSeveral() {
        Meshyard first = placed(4, 1, 0, 3, 1, 2);
        first.traffic(0, 1, 1);
        first.traffic(2, 3, 0);
        // 0 to 3 is 3 steps: exchanged 0 with 2 they are 2 apart, 0 with 3 1 apart, 1 with 2 1 apart, 1 with 3 2 apart
        same("by two", 2, first.swap());
        same("0 with 3, ahead of 1 with 2", 2, first.nodeOf(0));
        same("0 with 3, ahead of 1 with 2", 0, first.nodeOf(3));
        same("1 stays", 3, first.nodeOf(1));
        Meshyard second = placed(3, 1, 0, 2, 1, 1);
        second.traffic(0, 1, 5);
        same("by one step", 5, second.swap());
        same("0 with 2, ahead of 0 with 3", 1, second.nodeOf(0));
        same("0 with 2, ahead of 0 with 3", 0, second.nodeOf(2));
        same("3 stays", 1, second.nodeOf(3));
    }

    private static void promise40SwapOfNone() {
        Meshyard yard = yard(3, 1);
        raises("no task", NONE, yard, () -> yard.swap());
        yard.task(0);
        raises("one task", NONE, yard, () -> yard.swap());
        yard.task(2);
        raises("no traffic", NONE, yard, () -> yard.swap());
        yard.traffic(0, 1, 9);
        raises("two stay as far apart", NONE, yard, () -> yard.swap());
        same("they stay", 0, yard.nodeOf(0));
        same("they stay", 2, yard.nodeOf(1));
    }

    private static void promise41NodeOf() {
        Meshyard yard = placed(4, 4, 15, 0, 7);
        same("as placed", 15, yard.nodeOf(0));
        same("as placed", 0, yard.nodeOf(1));
        same("as placed", 7, yard.nodeOf(2));
        for (int task : new int[] {-1, 3, 8, Integer.MIN_VALUE, Integer.MAX_VALUE}) {
            raises("no task", NO_SUCH, yard, () -> yard.nodeOf(task));
        }
    }
}
