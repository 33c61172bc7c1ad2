import java.util.Random;

/** Texts that stand at a limit, or that chance makes, used by several tests. */
final class Texts {
    static final String EIGHT_NODES = "n0,1;n0,1;n0,1;n0,1;n0,1;n0,1;n0,1;n0,1;";
    /** Twelve ties of these nodes; of the 28 pairs 1, 7 is not tied. */
    static final String TWELVE_TIES = "e0,1,1;e0,2,1;e0,3,1;e0,4,1;e0,5,1;e0,6,1;e0,7,1;"
            + "e1,2,1;e1,3,1;e1,4,1;e1,5,1;e1,6,1;";
    static final String ELEVEN_TIES = TWELVE_TIES.substring(0, TWELVE_TIES.length() - "e1,6,1;".length());

    /** Eight nodes of four choices, four ties, 200 letters. */
    static final String LONGEST = "n0,1,22,33,44;".repeat(8) + "e0,1,0123456789012345;e2,3,0123456789012345;"
            + "e4,5,0123456789012345;e6,7,0123456789012345;";

    /** All choices of all nodes cost 1: 65536 plans. */
    static final String MOST_PLANS = "n0,1,1,1,1;".repeat(8);

    /** Four nodes, each tied to each; 3 is led astray if it guesses. */
    static final String ASTRAY = "n0,0,0;n0,0,0;n0,0,0;n0,0,0;"
            + "e0,1,8000;e0,2,8000;e1,2,8000;e0,3,0181;e1,3,0181;e2,3,0181;";

    /** Nodes 0 and 1 can not be together: all plans cost NEVER. */
    static final String IMPOSSIBLE = "n0,1,2;n0,99,3;n2,4,5,6;e0,1,0999;e1,2,123456;";

    private Texts() {
    }

    /** A text without fault, but that it may have nine nodes, thirteen ties or more than 200 letters. */
    static StringBuilder random(Random random) {
        StringBuilder text = new StringBuilder();
        int nodes = 1 + random.nextInt(random.nextInt(4) == 0 ? 9 : 7);
        int[] choices = new int[nodes];
        int most = 1 + random.nextInt(nodes > 6 ? 3 : 4);
        for (int u = 0; u < nodes; u++) {
            choices[u] = 1 + random.nextInt(most);
            text.append('n').append(random.nextInt(4));
            for (int i = 0; i < choices[u]; i++) {
                int range = random.nextInt(3);
                text.append(',').append(range == 0 ? 99 : random.nextInt(range == 1 ? 12 : 4));
            }
            text.append(';');
        }
        int density = 1 + random.nextInt(4);
        boolean harsh = random.nextInt(4) == 0;
        for (int u = 0; u < nodes; u++) {
            for (int v = u + 1; v < nodes; v++) {
                if (random.nextInt(4) < density && text.length() < 190) {
                    text.append('e').append(u).append(',').append(v).append(',');
                    for (int k = 0; k < choices[u] * choices[v]; k++) {
                        text.append(harsh ? 9 * random.nextInt(2) : random.nextInt(10));
                    }
                    text.append(';');
                }
            }
        }
        return text;
    }
}
