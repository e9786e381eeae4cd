/** Term 3: losses by chance, at the edges of q, WORK, SAVE and the pieces. */
public final class T3LossesTest {
    public static void main(String[] args) {
        Check check = new Check("term 3");
        qIs2To10(check);
        workIs1To10(check);
        saveIs0To2(check);
        piecesAreOfKHours(check);
        theLastPieceIsWhatIsLeft(check);
        theGreatestIsExact(check);
        kIs1ToWork(check);
        theLeastMeanIsBest(check);
        check.end();
    }

    private static void mean(Check check, int[] call, long above, long below) {
        CheapHours x = new CheapHours();
        String text = call[0] + ", " + call[1] + ", " + call[2] + ", " + call[3];
        check.due("mean(" + text + ", 0)", x.mean(call[0], call[1], call[2], call[3], 0), above);
        check.due("mean(" + text + ", 1)", x.mean(call[0], call[1], call[2], call[3], 1), below);
    }

    /** One hour takes q by q - 1 in the mean. */
    private static void qIs2To10(Check check) {
        check.about("the chance 1 by q (q 2 .. 10)");
        for (int q = 2; q <= 10; q++) {
            mean(check, new int[] {1, 0, q, 1}, q, q - 1);
        }
        for (int q : new int[] {-1, 0, 1, 11}) {
            check.none("span, q " + q, new CheapHours().span(1, 0, q));
            mean(check, new int[] {1, 0, q, 1}, -1, -1);
        }
    }

    /** With q 2 a try of n hours takes 2 to the power of n + 1, less 2. */
    private static void workIs1To10(Check check) {
        check.about("WORK (1 .. 10 HOURS)");
        for (int work = 1; work <= 10; work++) {
            mean(check, new int[] {work, 0, 2, work}, (2L << work) - 2, 1);
            mean(check, new int[] {work, 0, 2, 1}, 2L * work, 1);
        }
        for (int work : new int[] {-1, 0, 11}) {
            check.none("span, WORK " + work, new CheapHours().span(work, 0, 2));
            mean(check, new int[] {work, 0, 2, 1}, -1, -1);
        }
    }

    private static void saveIs0To2(Check check) {
        check.about("each a try of its HOURS and SAVE (0 .. 2) more");
        mean(check, new int[] {1, 0, 2, 1}, 2, 1);
        mean(check, new int[] {1, 1, 2, 1}, 6, 1);
        mean(check, new int[] {1, 2, 2, 1}, 14, 1);
        mean(check, new int[] {3, 2, 2, 1}, 42, 1);
        mean(check, new int[] {10, 2, 2, 10}, 8190, 1);
        for (int save : new int[] {-1, 3}) {
            check.none("span, SAVE " + save, new CheapHours().span(1, save, 2));
            mean(check, new int[] {1, save, 2, 1}, -1, -1);
        }
    }

    /** With q 2 tries of 1, 2, 3, 4 hours take 2, 6, 14, 30. */
    private static void piecesAreOfKHours(Check check) {
        check.about("WORK is done in pieces of k HOURS");
        mean(check, new int[] {4, 0, 2, 1}, 8, 1);
        mean(check, new int[] {4, 0, 2, 2}, 12, 1);
        mean(check, new int[] {4, 0, 2, 4}, 30, 1);
        mean(check, new int[] {4, 1, 2, 2}, 28, 1);
    }

    private static void theLastPieceIsWhatIsLeft(Check check) {
        check.about("(the last one what is left)");
        mean(check, new int[] {4, 0, 2, 3}, 14 + 2, 1);
        mean(check, new int[] {5, 0, 2, 3}, 14 + 6, 1);
        mean(check, new int[] {5, 0, 2, 2}, 6 + 6 + 2, 1);
        mean(check, new int[] {5, 1, 2, 4}, 62 + 6, 1);
        mean(check, new int[] {10, 0, 2, 9}, 1022 + 2, 1);
        // 3 * (27 - 8) / 8 and 3 * (3 - 2) / 2
        mean(check, new int[] {4, 0, 3, 3}, 57 + 12, 8);
    }

    private static void theGreatestIsExact(Check check) {
        check.about("q times (q to the power of n, less q - 1 to the power of n)");
        mean(check, new int[] {10, 2, 10, 10}, 7175704635190L, 282429536481L);
        mean(check, new int[] {10, 2, 2, 10}, 8190, 1);
        mean(check, new int[] {10, 0, 2, 10}, 2046, 1);
    }

    private static void kIs1ToWork(Check check) {
        check.about("the k (1 .. WORK)");
        for (int work = 1; work <= 10; work++) {
            mean(check, new int[] {work, 1, 5, 0}, -1, -1);
            mean(check, new int[] {work, 1, 5, work + 1}, -1, -1);
            check.yes("k " + work, new CheapHours().mean(work, 1, 5, work, 0) > 0);
            check.due("WORK 1", new CheapHours().span(1, work % 3, 2 + work % 9), 1);
        }
    }

    private static void theLeastMeanIsBest(Check check) {
        check.about("BEST SPAN: the k with the least mean of all HOURS");
        for (int work = 1; work <= 10; work++) {
            for (int q = 2; q <= 10; q++) {
                check.due("a save that takes nothing: k 1", new CheapHours().span(work, 0, q), 1);
            }
        }
        // two tries of 2 hours take 12, one of 3 takes 14
        check.due("span(2, 1, 2)", new CheapHours().span(2, 1, 2), 1);
        // two tries of 3 hours take 28, one of 4 takes 30
        check.due("span(2, 2, 2)", new CheapHours().span(2, 2, 2), 1);
        // with q 3: two of 3 hours take 2 * 57 / 8 = 14.25, one of 4 takes 3 * 65 / 16 = 12.1875
        check.due("span(2, 2, 3)", new CheapHours().span(2, 2, 3), 2);
        check.due("k is WORK", new CheapHours().span(3, 2, 10), 3);
        check.due("k between", new CheapHours().span(10, 2, 10), 5);
    }
}
