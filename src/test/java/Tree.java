import java.util.ArrayList;
import java.util.List;

/** A part of a program that the Generator made, with the place of its first token. */
final class Tree {
    final String op;
    final List<Tree> parts = new ArrayList<>();
    /** The number of the first token, and, when the text is laid out, its place. */
    int token;
    int place;
    long number;
    int low = 0;
    int high = Integer.MAX_VALUE;
    /** What a name stands for: the tree of a let, a watch or a value. */
    Tree target;
    /** What it is at steps, and which doing of the step that was. */
    final long[] known = new long[120];
    final int[] knownAt = new int[120];

    Tree(String op, int token) {
        this.op = op;
        this.token = token;
    }
}
