import java.lang.reflect.Array;
import java.lang.reflect.Field;
import java.lang.reflect.Method;

/**
 * No run of calls makes isSound answer false or hasRing true, as the document has it; so these reach into the object,
 * break what isSound looks at and lay a ring, to see that both do look.
 */
public final class TamperTests extends Check {
    private static final int EAST = 0;
    private static final int WEST = 1;
    private static final int SOUTH = 2;
    private static final int NORTH = 3;
    private static final int CORE = 4;

    public static void main(String[] args) throws ReflectiveOperationException {
        aPieceIsGone();
        aPieceIsTwice();
        piecesAreOutOfOrderInARow();
        piecesAreOutOfOrderAlongTheWay();
        twoPacketsAreInARow();
        aRouterSleepsWithPieces();
        aRingIsFound();
        end("TamperTests");
    }

    static Object field(Object of, String name) throws ReflectiveOperationException {
        Field field = of.getClass().getDeclaredField(name);
        field.setAccessible(true);
        return field.get(of);
    }

    static void change(Object of, String name, Object to) throws ReflectiveOperationException {
        Field field = of.getClass().getDeclaredField(name);
        field.setAccessible(true);
        field.set(of, to);
    }

    static Object row(Meshyard yard, int node, int side) throws ReflectiveOperationException {
        return Array.get(field(Array.get(field(yard, "routers"), node), "rows"), side);
    }

    /** Three nodes in a line; packet 0 has its head in row w of 2, bodies in row w of 1, its tail in row c of 0. */
    static Meshyard onTheWay() {
        Meshyard yard = yard(3, 1);
        yard.places(4);
        yard.send(0, 2, 1, 4);
        for (int beat = 0; beat < 4; beat++) {
            yard.sleep(2);
            yard.beats(1);
        }
        same("three pieces are in row w of 1", 3, yard.row(1, 'w', 0));
        yard.beats(1);
        same("the head is ahead", 2, yard.head(0));
        isTrue("sound until then", yard.isSound());
        return yard;
    }

    private static void aPieceIsGone() throws ReflectiveOperationException {
        for (int node = 0; node < 3; node++) {
            Meshyard yard = onTheWay();
            Object row = row(yard, node, node == 0 ? CORE : WEST);
            change(row, "count", (int) field(row, "count") - 1);
            same("a piece is gone at " + node, false, yard.isSound());
        }
    }

    private static void aPieceIsTwice() throws ReflectiveOperationException {
        Meshyard yard = onTheWay();
        Array.set(field(row(yard, 1, WEST), "piece"), 1, 1);
        same("a piece is there twice, another one never", false, yard.isSound());
    }

    private static void piecesAreOutOfOrderInARow() throws ReflectiveOperationException {
        Meshyard yard = onTheWay();
        Object pieces = field(row(yard, 1, WEST), "piece");
        Object first = Array.get(pieces, 0);
        Array.set(pieces, 0, Array.get(pieces, 1));
        Array.set(pieces, 1, first);
        same("two are exchanged in a row", false, yard.isSound());
    }

    private static void piecesAreOutOfOrderAlongTheWay() throws ReflectiveOperationException {
        Meshyard yard = onTheWay();
        Object head = field(row(yard, 2, WEST), "piece");
        Object body = field(row(yard, 1, WEST), "piece");
        Object first = Array.get(head, 0);
        Array.set(head, 0, Array.get(body, 0));
        Array.set(body, 0, first);
        same("two are exchanged along the way", false, yard.isSound());
    }

    private static void twoPacketsAreInARow() throws ReflectiveOperationException {
        Meshyard yard = onTheWay();
        Object row = row(yard, 1, WEST);
        Array.set(field(row, "packet"), 3, 7);
        change(row, "count", 4);
        same("a piece of another packet behind three", false, yard.isSound());
    }

    private static void aRouterSleepsWithPieces() throws ReflectiveOperationException {
        for (int node = 0; node < 3; node++) {
            Meshyard yard = onTheWay();
            change(Array.get(field(yard, "routers"), node), "isAwake", false);
            same("asleep with pieces at " + node, false, yard.isSound());
        }
    }

    private static void aRingIsFound() throws ReflectiveOperationException {
        Object ways = field(yard(2, 2), "ways");
        Object onward = field(ways, "onward");
        Method finds = ways.getClass().getDeclaredMethod("findsRing");
        finds.setAccessible(true);
        int[] nodes = {0, 1, 3, 2};
        int[] directions = {EAST, SOUTH, WEST, NORTH};
        for (int i = 0; i < 4; i++) {
            same("no ring until then", false, finds.invoke(ways));
            Array.set(onward, nodes[i] * 4 + directions[i], 1 << directions[(i + 1) % 4]);
        }
        same("a ring of four links", true, finds.invoke(ways));
        for (int i = 0; i < 4; i++) {
            int link = nodes[i] * 4 + directions[i];
            Array.set(onward, link, 0);
            same("a gap in it", false, finds.invoke(ways));
            Array.set(onward, link, 1 << directions[(i + 1) % 4]);
        }
        Array.set(onward, 3 * 4 + NORTH, 1 << WEST);
        same("a link that leads into it", true, finds.invoke(ways));
    }
}
