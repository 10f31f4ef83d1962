import java.util.ArrayList;
import java.util.List;
import java.util.TreeSet;

/** The hall a second time, read from the document alone, to compare WaltzHall's answers with. */
final class Model {
    private static final int[] DX = {0, 1, 0, -1};
    private static final int[] DY = {-1, 0, 1, 0};

    private final String[] dances = {"frbl", "ftftftft", "sswl", "w", "fbfbt", "rrlluu", "flbr", "tutu"};
    private final List<Integer> tape = new ArrayList<>();
    // Each dancer is the row of what dancer() tells of it.
    private final List<int[]> dancers = new ArrayList<>();
    private final List<Winder> winders = new ArrayList<>();
    private int beat;

    private static final class Winder {
        int x;
        int y;
        int strength;
        int turn;
        int windings;
        final List<Integer> round = new ArrayList<>();
    }

    private Model copy() {
        Model copy = new Model();
        System.arraycopy(dances, 0, copy.dances, 0, dances.length);
        copy.tape.addAll(tape);
        for (int[] row : dancers) {
            copy.dancers.add(row.clone());
        }
        for (Winder winder : winders) {
            Winder other = new Winder();
            other.x = winder.x;
            other.y = winder.y;
            other.strength = winder.strength;
            other.turn = winder.turn;
            other.windings = winder.windings;
            other.round.addAll(winder.round);
            copy.winders.add(other);
        }
        copy.beat = beat;
        return copy;
    }

    private static void index(boolean wanted) {
        if (!wanted) {
            throw new IndexOutOfBoundsException();
        }
    }

    private static void argument(boolean wanted) {
        if (!wanted) {
            throw new IllegalArgumentException();
        }
    }

    private static void state(boolean wanted) {
        if (!wanted) {
            throw new IllegalStateException();
        }
    }

    private static boolean in(int number, int first, int last) {
        return first <= number && number <= last;
    }

    private boolean isDancer(int number) {
        return in(number, 0, dancers.size() - 1);
    }

    int feed(int... numbers) {
        state(tape.size() + 20 <= 40);
        for (int number : numbers) {
            for (int k = 3; k >= 0; k--) {
                tape.add(number >> 8 * k & 255);
            }
        }
        return tape.size();
    }

    int trim(int n) {
        argument(in(n, 0, tape.size()));
        while (tape.size() > n) {
            tape.remove(tape.size() - 1);
        }
        return n;
    }

    int learn(int dance) {
        index(in(dance, 0, 7));
        StringBuilder text = new StringBuilder();
        for (int sign : tape) {
            text.append((char) sign);
        }
        tape.clear();
        if (!text.toString().matches("[fblrtusw]{1,24}")) {
            return -1;
        }
        dances[dance] = text.toString();
        for (int[] d : dancers) {
            if (d[Halls.DANCE] == dance && d[Halls.PLACE] >= text.length()) {
                d[Halls.PLACE] = 0;
            }
        }
        return text.length();
    }

    int figure(int dance, int place) {
        index(in(dance, 0, 7) && in(place, 0, dances[dance].length() - 1));
        return dances[dance].charAt(place);
    }

    int drift(int dance, int what) {
        index(in(dance, 0, 7) && in(what, 0, 3));
        int[] d = {0, 0, 0};
        int rounds = -1;
        int[] told = null;
        // A dance that ever comes back does so within four rounds.
        for (int round = 1; round <= 4 && rounds < 0; round++) {
            for (char figure : dances[dance].toCharArray()) {
                int side = "frbl".indexOf(figure);
                if (side >= 0) {
                    d[0] += DX[(d[2] + side) % 4];
                    d[1] += DY[(d[2] + side) % 4];
                }
                d[2] = (d[2] + quarters(figure)) % 4;
            }
            told = told == null ? d.clone() : told;
            rounds = d[0] == 0 && d[1] == 0 && d[2] == 0 ? round : -1;
        }
        return what == 3 ? rounds : told[what];
    }

    private static int quarters(char figure) {
        return figure == 't' ? 1 : figure == 'u' ? 3 : 0;
    }

    int come(int x, int y, int face, int cost) {
        argument(in(x, 0, 15) && in(y, 0, 15) && in(face, 0, 3) && in(cost, 1, 9));
        state(at(x, y) < 0 && dancers.size() < 8);
        dancers.add(new int[] {x, y, face, 100, cost, 0, 0, -1, 0, 0, 0, 0});
        return dancers.size() - 1;
    }

    int dance(int dancer, int dance) {
        index(isDancer(dancer) && in(dance, 0, 7));
        int before = dancers.get(dancer)[Halls.DANCE];
        dancers.get(dancer)[Halls.DANCE] = dance;
        dancers.get(dancer)[Halls.PLACE] = 0;
        return before;
    }

    int pair(int leader, int other) {
        index(isDancer(leader) && isDancer(other));
        argument(leader != other);
        int[] a = dancers.get(leader);
        int[] b = dancers.get(other);
        state(a[Halls.PARTNER] < 0 && b[Halls.PARTNER] < 0 && direction(a, b) >= 0);
        a[Halls.PARTNER] = other;
        b[Halls.PARTNER] = leader;
        b[Halls.FOLLOWS] = 1;
        return count(2);
    }

    /** The direction in which b stands beside a, -1 if it does not. */
    private static int direction(int[] a, int[] b) {
        for (int k = 0; k < 4; k++) {
            if (a[0] + DX[k] == b[0] && a[1] + DY[k] == b[1]) {
                return k;
            }
        }
        return -1;
    }

    int part(int dancer) {
        index(isDancer(dancer));
        int other = dancers.get(dancer)[Halls.PARTNER];
        state(other >= 0);
        for (int one : new int[] {dancer, other}) {
            dancers.get(one)[Halls.PARTNER] = -1;
            dancers.get(one)[Halls.FOLLOWS] = 0;
        }
        return other;
    }

    int wind(int dancer, int by) {
        index(isDancer(dancer));
        argument(in(by, -200, 200));
        int spring = dancers.get(dancer)[Halls.SPRING] + by;
        dancers.get(dancer)[Halls.SPRING] = spring < 0 ? 0 : spring > 200 ? 200 : spring;
        return dancers.get(dancer)[Halls.SPRING];
    }

    int dancer(int dancer, int what) {
        index(isDancer(dancer) && in(what, 0, 11));
        return dancers.get(dancer)[what];
    }

    int at(int x, int y) {
        index(in(x, 0, 15) && in(y, 0, 15));
        for (int i = 0; i < dancers.size(); i++) {
            if (dancers.get(i)[0] == x && dancers.get(i)[1] == y) {
                return i;
            }
        }
        return -1;
    }

    int addWinder(int x, int y, int strength) {
        argument(in(x, 0, 15) && in(y, 0, 15) && in(strength, 1, 100));
        state(winders.size() < 3);
        Winder winder = new Winder();
        winder.x = x;
        winder.y = y;
        winder.strength = strength;
        winders.add(winder);
        return winders.size() - 1;
    }

    int call(int winder, int dancer) {
        index(in(winder, 0, winders.size() - 1) && isDancer(dancer));
        List<Integer> round = winders.get(winder).round;
        state(round.size() < 8);
        round.add(dancer);
        return round.size();
    }

    int winder(int winder, int what) {
        index(in(winder, 0, winders.size() - 1) && in(what, 0, 5));
        Winder w = winders.get(winder);
        int whose = w.round.isEmpty() ? -1 : w.round.get(w.turn);
        return new int[] {w.x, w.y, w.strength, w.round.size(), whose, w.windings}[what];
    }

    int pass(int beats) {
        argument(in(beats, 1, 200));
        int before = count(7);
        for (int i = 0; i < beats; i++) {
            play();
        }
        return count(7) - before;
    }

    private void play() {
        for (int i = 0; i < dancers.size(); i++) {
            if (dancers.get(i)[Halls.FOLLOWS] == 0) {
                figureOf(i);
            }
        }
        for (Winder winder : winders) {
            if (!winder.round.isEmpty()) {
                attend(winder, dancers.get(winder.round.get(winder.turn)));
            }
        }
        for (int[] d : dancers) {
            d[Halls.DIZZY] -= d[Halls.DIZZY] > 0 ? 1 : 0;
        }
        beat++;
    }

    private void figureOf(int number) {
        int[] leader = dancers.get(number);
        List<int[]> both = new ArrayList<>();
        both.add(leader);
        if (leader[Halls.PARTNER] >= 0) {
            both.add(dancers.get(leader[Halls.PARTNER]));
        }
        for (int[] d : both) {
            if (d[Halls.DIZZY] > 0 || d[Halls.SPRING] < d[Halls.COST]) {
                return;
            }
        }
        String text = dances[leader[Halls.DANCE]];
        char figure = text.charAt(leader[Halls.PLACE]);
        leader[Halls.PLACE] = (leader[Halls.PLACE] + 1) % text.length();
        int[][] goals = goals(both, figure);
        if (bumps(both, goals)) {
            return;
        }
        for (int i = 0; i < both.size(); i++) {
            int[] d = both.get(i);
            d[0] = goals[i][0];
            d[1] = goals[i][1];
            d[Halls.FACE] = (d[Halls.FACE] + quarters(figure)) % 4;
            d[Halls.SPRING] -= d[Halls.COST];
            d[Halls.FIGURES]++;
        }
    }

    private static int[][] goals(List<int[]> both, char figure) {
        int[] leader = both.get(0);
        int[][] goals = new int[both.size()][];
        int side = "frbl".indexOf(figure);
        for (int i = 0; i < goals.length; i++) {
            int[] d = both.get(figure == 's' ? goals.length - 1 - i : i);
            int k = (leader[Halls.FACE] + side) % 4;
            goals[i] = side < 0 ? new int[] {d[0], d[1]} : new int[] {d[0] + DX[k], d[1] + DY[k]};
        }
        if (quarters(figure) > 0 && goals.length == 2) {
            int k = (direction(leader, both.get(1)) + quarters(figure)) % 4;
            goals[1] = new int[] {leader[0] + DX[k], leader[1] + DY[k]};
        }
        return goals;
    }

    private boolean bumps(List<int[]> both, int[][] goals) {
        boolean bump = false;
        TreeSet<Integer> shaken = new TreeSet<>();
        for (int[] goal : goals) {
            if (!in(goal[0], 0, 15) || !in(goal[1], 0, 15)) {
                bump = true;
            } else if (at(goal[0], goal[1]) >= 0 && !both.contains(dancers.get(at(goal[0], goal[1])))) {
                bump = true;
                shaken.add(at(goal[0], goal[1]));
            }
        }
        for (int[] d : both) {
            shaken.add(at(d[0], d[1]));
        }
        for (int number : bump ? shaken : new TreeSet<Integer>()) {
            dancers.get(number)[Halls.DIZZY] = 3;
            dancers.get(number)[Halls.BUMPS]++;
        }
        return bump;
    }

    private static void attend(Winder winder, int[] dancer) {
        int[] here = {winder.x, winder.y};
        boolean near = here[0] == dancer[0] && here[1] == dancer[1] || direction(here, dancer) >= 0;
        if (dancer[Halls.SPRING] >= 150) {
            winder.turn = (winder.turn + 1) % winder.round.size();
        } else if (near) {
            dancer[Halls.SPRING] = Math.min(200, dancer[Halls.SPRING] + winder.strength);
            winder.windings++;
            winder.turn = (winder.turn + 1) % winder.round.size();
        } else if (winder.x != dancer[0]) {
            winder.x += Integer.signum(dancer[0] - winder.x);
        } else {
            winder.y += Integer.signum(dancer[1] - winder.y);
        }
    }

    int count(int what) {
        index(in(what, 0, 8));
        int[] counts = {beat, dancers.size(), 0, winders.size(), 0, 0, 0, 0, 0};
        for (int[] d : dancers) {
            counts[2] += d[Halls.FOLLOWS];
            counts[4] += d[Halls.DIZZY] > 0 ? 1 : 0;
            counts[5] += d[Halls.SPRING];
            counts[6] += d[Halls.FIGURES];
            counts[7] += d[Halls.BUMPS];
            counts[8] += d[Halls.SPRING] < d[Halls.COST] ? 1 : 0;
        }
        return counts[what];
    }

    int foresee(int dancer, int beats, int what) {
        index(isDancer(dancer) && in(what, 0, 4));
        argument(in(beats, 1, 200));
        Model then = copy();
        then.pass(beats);
        return what < 4 ? then.dancer(dancer, what)
                : then.dancer(dancer, Halls.BUMPS) - dancer(dancer, Halls.BUMPS);
    }

    int firstToStop(int beats) {
        argument(in(beats, 1, 200));
        Model then = copy();
        for (int passed = 1; passed <= beats; passed++) {
            then.pass(1);
            for (int i = 0; i < dancers.size(); i++) {
                if (!isSpent(i) && then.isSpent(i)) {
                    return i;
                }
            }
        }
        return -1;
    }

    private boolean isSpent(int dancer) {
        return dancer(dancer, Halls.SPRING) < dancer(dancer, Halls.COST);
    }

    int meet(int a, int b, int beats) {
        index(isDancer(a) && isDancer(b));
        argument(a != b && in(beats, 1, 200));
        Model then = copy();
        for (int passed = 0; passed <= beats; passed++) {
            if (direction(then.dancers.get(a), then.dancers.get(b)) >= 0) {
                return passed;
            }
            then.play();
        }
        return -1;
    }

    double tension() {
        return dancers.isEmpty() ? 0 : (double) count(5) / dancers.size();
    }

    long digest() {
        List<Integer> told = new ArrayList<>();
        for (int what = 0; what <= 8; what++) {
            told.add(count(what));
        }
        for (String text : dances) {
            told.add(text.length());
            for (char figure : text.toCharArray()) {
                told.add((int) figure);
            }
        }
        for (int[] d : dancers) {
            for (int x : d) {
                told.add(x);
            }
        }
        for (int i = 0; i < winders.size(); i++) {
            for (int what = 0; what <= 5; what++) {
                told.add(winder(i, what));
            }
        }
        long d = 521;
        for (int x : told) {
            d = d * 31 + x;
        }
        return d;
    }
}
