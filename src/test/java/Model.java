import java.util.ArrayList;
import java.util.List;

/**
 * The document told a second time, with lists and maps of its own and no care for speed, so that long runs
 * of the class can be laid beside it.
 */
final class Model {
    static final class Mix {
        int mask;
        int data;

        Mix(int mask, int data) {
            this.mask = mask;
            this.data = data;
        }

        int head() {
            return Integer.highestOneBit(mask);
        }
    }

    static final class Node {
        int number;
        int pieces;
        int sum;
        List<Mix> basis = new ArrayList<>();
        int runs;
        int span;
        int began;
        int tellsAt;
        int heard;
        Integer dataAt;
        int tells;
        int mixes;
        int spoilt;
        int lost;
        int lies;
        int turn;
        int turnTick;
    }

    record Post(boolean isMix, int number, int rank, int pieces, int sum, Mix mix, int turn, int turnTick) {
    }

    private int few = 2;
    private int low = 4;
    private int high = 64;
    private int wait = 6;
    private Dice dice = new Dice(1);
    private final List<Node> nodes = new ArrayList<>();
    private final int[][] odds = new int[12][12];
    private List<Integer> told = new ArrayList<>();
    private int tick;
    private int letters;
    private int allWhole = -1;

    void seed(int s) {
        dice = new Dice(s);
    }

    boolean rules(int f, int l, int h, int w) {
        if (!nodes.isEmpty() || f < 1 || f > 9 || l < 2 || l > 64 || h < l || h > 1024 || w < 1 || w > 32) {
            return false;
        }
        few = f;
        low = l;
        high = h;
        wait = w;
        return true;
    }

    int machine() {
        if (nodes.size() == 12) {
            return -1;
        }
        Node node = new Node();
        nodes.add(node);
        for (int i = 0; i < 12; i++) {
            odds[nodes.size() - 1][i] = -1;
        }
        node.span = low;
        begin(node, tick);
        return nodes.size() - 1;
    }

    boolean hears(int a, int b, int o) {
        if (!is(a) || !is(b) || a == b || o < -1 || o > 100) {
            return false;
        }
        odds[a][b] = o;
        return true;
    }

    int piece(int data) {
        if (told.size() == 12) {
            return -1;
        }
        told.add(data);
        return told.size();
    }

    int load(int m, int number) {
        if (!is(m) || told.isEmpty() || number < 1 || number > 9999 || number <= nodes.get(m).number) {
            return -1;
        }
        if (number > greatest()) {
            allWhole = -1;
        }
        Node node = nodes.get(m);
        node.number = number;
        node.pieces = told.size();
        node.sum = 0;
        node.basis = new ArrayList<>();
        for (int i = 0; i < told.size(); i++) {
            node.sum += told.get(i) * (i + 1);
            node.basis.add(0, new Mix(1 << i, told.get(i)));
        }
        told = new ArrayList<>();
        stir(node);
        return node.basis.size();
    }

    boolean turn(int m, int number, int at) {
        if (!is(m) || number < 1 || number > 9999 || at < 0 || at > 1000000 || number <= nodes.get(m).turn) {
            return false;
        }
        nodes.get(m).turn = number;
        nodes.get(m).turnTick = at;
        return true;
    }

    boolean lie(int m, int mask, int data) {
        if (!is(m) || nodes.get(m).number == 0 || mask < 1 || mask >= 1 << nodes.get(m).pieces) {
            return false;
        }
        Node node = nodes.get(m);
        works(node, new Post(true, node.number, 0, node.pieces, node.sum, new Mix(mask, data), 0, 0));
        return true;
    }

    boolean cut(int m, boolean torn) {
        if (!is(m)) {
            return false;
        }
        Node node = nodes.get(m);
        if (torn && !node.basis.isEmpty()) {
            node.basis.remove(node.basis.size() - 1);
        }
        node.span = low;
        begin(node, tick);
        node.dataAt = null;
        node.turn = 0;
        node.turnTick = 0;
        return true;
    }

    int ticks(int n) {
        if (n < 1 || n > 200 || tick + n > 100000) {
            return -1;
        }
        for (int i = 0; i < n; i++) {
            oneTick();
            tick++;
        }
        return tick;
    }

    private void oneTick() {
        List<Post> sent = new ArrayList<>();
        for (Node node : nodes) {
            sent.add(sends(node));
        }
        List<Post> got = new ArrayList<>();
        for (int a = 0; a < nodes.size(); a++) {
            got.add(sent.get(a) != null ? null : hearing(a, sent));
        }
        for (int a = 0; a < nodes.size(); a++) {
            if (got.get(a) != null) {
                works(nodes.get(a), got.get(a));
            }
        }
        for (Node node : nodes) {
            if (node.began + node.span == tick + 1) {
                node.span = Math.min(high, 2 * node.span);
                begin(node, tick + 1);
            }
            if (whole(node) && node.turn == node.number && node.turnTick - 1 <= tick) {
                node.runs = node.turn;
            }
        }
        int top = greatest();
        if (top > 0 && allWhole == -1 && nodes.stream().allMatch(node -> node.number == top && whole(node))) {
            allWhole = tick;
        }
    }

    private Post sends(Node node) {
        boolean due = node.dataAt != null && node.dataAt == tick;
        if (due) {
            node.dataAt = null;
        }
        if (due && !node.basis.isEmpty()) {
            int bits = dice.below(4096);
            Mix mix = new Mix(0, 0);
            boolean any = false;
            for (int i = 0; i < node.basis.size(); i++) {
                if ((bits & 1 << i) != 0) {
                    any = true;
                    mix.mask ^= node.basis.get(i).mask;
                    mix.data ^= node.basis.get(i).data;
                }
            }
            if (!any) {
                mix = new Mix(node.basis.get(0).mask, node.basis.get(0).data);
            }
            node.mixes++;
            letters++;
            return new Post(true, node.number, node.basis.size(), node.pieces, node.sum, mix, node.turn, node.turnTick);
        }
        if (node.tellsAt == tick && node.heard < few) {
            node.tells++;
            letters++;
            return new Post(false, node.number, node.basis.size(), 0, 0, null, node.turn, node.turnTick);
        }
        return null;
    }

    private Post hearing(int a, List<Post> sent) {
        List<Integer> heard = new ArrayList<>();
        for (int b = 0; b < nodes.size(); b++) {
            if (sent.get(b) != null && odds[a][b] != -1) {
                heard.add(b);
            }
        }
        if (heard.size() >= 2) {
            nodes.get(a).spoilt++;
        }
        if (heard.size() != 1) {
            return null;
        }
        if (dice.below(100) < odds[a][heard.get(0)]) {
            nodes.get(a).lost++;
            return null;
        }
        return sent.get(heard.get(0));
    }

    private void works(Node node, Post post) {
        if (post.turn > node.turn) {
            node.turn = post.turn;
            node.turnTick = post.turnTick;
        }
        if (post.isMix) {
            mixWorks(node, post);
        } else if (post.number == node.number && post.rank == node.basis.size()) {
            node.heard++;
        } else {
            stir(node);
            boolean less = post.number < node.number || (post.number == node.number && post.rank < node.basis.size());
            if (less && node.dataAt == null) {
                node.dataAt = tick + 1 + dice.below(wait);
            }
        }
    }

    private void mixWorks(Node node, Post post) {
        if (post.number > node.number) {
            node.number = post.number;
            node.pieces = post.pieces;
            node.sum = post.sum;
            node.basis = new ArrayList<>();
        }
        if (post.number < node.number || post.pieces != node.pieces || post.sum != node.sum) {
            stir(node);
            return;
        }
        if (comesIn(node.basis, post.mix)) {
            stir(node);
            if (node.basis.size() == node.pieces && sumOf(node.basis) != node.sum) {
                node.basis = new ArrayList<>();
                node.lies++;
            }
        }
        node.dataAt = null;
    }

    private static boolean comesIn(List<Mix> basis, Mix mix) {
        Mix rest = new Mix(mix.mask, mix.data);
        for (Mix one : basis) {
            if ((rest.mask & one.head()) != 0) {
                rest.mask ^= one.mask;
                rest.data ^= one.data;
            }
        }
        if (rest.mask == 0) {
            return false;
        }
        for (Mix one : basis) {
            if ((one.mask & rest.head()) != 0) {
                one.mask ^= rest.mask;
                one.data ^= rest.data;
            }
        }
        basis.add(rest);
        basis.sort((p, q) -> q.head() - p.head());
        return true;
    }

    private static int sumOf(List<Mix> basis) {
        int sum = 0;
        for (int i = 0; i < basis.size(); i++) {
            sum += basis.get(basis.size() - 1 - i).data * (i + 1);
        }
        return sum;
    }

    private void stir(Node node) {
        if (node.span > low) {
            node.span = low;
            begin(node, tick + 1);
        }
    }

    private void begin(Node node, int at) {
        node.began = at;
        node.heard = 0;
        node.tellsAt = at + node.span / 2 + dice.below(node.span - node.span / 2);
    }

    private static boolean whole(Node node) {
        return node.number > 0 && node.basis.size() == node.pieces && sumOf(node.basis) == node.sum;
    }

    private boolean is(int m) {
        return m >= 0 && m < nodes.size();
    }

    private int greatest() {
        int top = 0;
        for (Node node : nodes) {
            top = Math.max(top, node.number);
        }
        return top;
    }

    int machineOf(int m, int what) {
        if (!is(m)) {
            return -1;
        }
        Node n = nodes.get(m);
        if (what >= 100) {
            return what - 100 < n.basis.size() ? n.basis.get(what - 100).mask : -1;
        }
        int[] all = {n.number, n.pieces, n.basis.size(), whole(n) ? 1 : 0, n.runs, n.span, n.began, n.tellsAt, n.heard,
            n.dataAt == null ? -1 : n.dataAt, n.tells, n.mixes, n.spoilt, n.lost, n.lies, n.turn, n.turnTick};
        return what >= 0 && what < all.length ? all[what] : -1;
    }

    int data(int m, int i) {
        return is(m) && i >= 0 && i < nodes.get(m).basis.size() ? nodes.get(m).basis.get(i).data : 0;
    }

    int sum(int m) {
        return is(m) ? nodes.get(m).sum : 0;
    }

    int about(int what) {
        int top = greatest();
        int runners = (int) nodes.stream().filter(node -> top > 0 && node.runs == top).count();
        int[] all = {nodes.size(), tick, letters, runners, told.size(), allWhole};
        return what >= 0 && what < all.length ? all[what] : -1;
    }
}
