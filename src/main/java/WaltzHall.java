import java.util.ArrayList;

/** A ballroom of clockwork dancers; ../shared/DOC.md says what each call promises. */
public final class WaltzHall {
    private static final int SIDE = 16;
    private static final int DIRECTIONS = 4;
    private static final int MOST_FIGURES = 24;
    private static final int TAPE_BYTES = 40;
    private static final int FED_BYTES = 20;
    private static final int MOST_DANCERS = 8;
    private static final int MOST_COST = 9;
    private static final int FIRST_SPRING = 100;
    private static final int FULL_SPRING = 200;
    private static final int MOST_WINDING = 200;
    private static final int DIZZY_BEATS = 3;
    private static final int MOST_WINDERS = 3;
    private static final int MOST_STRENGTH = 100;
    private static final int LONGEST_ROUND = 8;
    private static final int WOUND_ENOUGH = 150;
    private static final int MOST_BEATS = 200;

    private static final int DRIFT_KINDS = 4;
    private static final int DANCER_KINDS = 12;
    private static final int WINDER_KINDS = 6;
    private static final int COUNT_KINDS = 9;
    private static final int FORESEEN_KINDS = 5;

    private static final int TOLD_SPRING = 3;
    private static final int TOLD_FOLLOWS = 8;
    private static final int TOLD_FIGURES = 10;
    private static final int TOLD_BUMPS = 11;
    private static final int FORESEEN_BUMPS = 4;

    private static final int SWAP = 's';
    private static final int REST = 'w';

    private static final long DIGEST_START = 521L;
    private static final long DIGEST_FACTOR = 31L;

    private final Tape tape = new Tape();
    private final ArrayList<Dance> dances = new ArrayList<>();
    private final Dance firstDance = new Dance(0, "frbl");
    private final Floor now = new Floor();
    // Looking ahead plays here, so that the beats that may come leave no trace in what is now.
    private final Floor ahead = new Floor();

    public WaltzHall() {
        dances.add(firstDance);
        dances.add(new Dance(1, "ftftftft"));
        dances.add(new Dance(2, "sswl"));
        dances.add(new Dance(3, "w"));
        dances.add(new Dance(4, "fbfbt"));
        dances.add(new Dance(5, "rrlluu"));
        dances.add(new Dance(6, "flbr"));
        dances.add(new Dance(7, "tutu"));
    }

    // ---- dances

    public int feed(int a, int b, int c, int d, int e) throws IllegalStateException {
        if (tape.bytesLeft() < FED_BYTES) {
            throw new IllegalStateException("the tape is too full");
        }
        tape.append(a);
        tape.append(b);
        tape.append(c);
        tape.append(d);
        tape.append(e);
        return tape.length;
    }

    public int trim(int n) throws IllegalArgumentException {
        if (n < 0 || n > tape.length) {
            throw new IllegalArgumentException("the tape has not so many bytes");
        }
        tape.length = n;
        return n;
    }

    public int learn(int dance) throws IndexOutOfBoundsException {
        Dance learned = neededDance(dance);
        boolean taken = learned.takeFrom(tape);
        tape.length = 0;
        if (!taken) {
            return -1;
        }
        now.restartBehindTheEndOf(learned);
        return learned.length;
    }

    public int figure(int dance, int place) throws IndexOutOfBoundsException {
        Dance asked = neededDance(dance);
        if (place < 0 || place >= asked.length) {
            throw new IndexOutOfBoundsException("the dance has no such place");
        }
        return asked.figureAt(place);
    }

    public int drift(int dance, int what) throws IndexOutOfBoundsException {
        Dance asked = neededDance(dance);
        needKind(what, DRIFT_KINDS);
        return asked.driftOf(what);
    }

    // ---- dancers

    public int come(int x, int y, int face, int cost) throws IllegalArgumentException, IllegalStateException {
        if (!isOnFloor(x, y) || face < 0 || face >= DIRECTIONS || cost < 1 || cost > MOST_COST) {
            throw new IllegalArgumentException("no such tile, face or cost");
        }
        if (now.dancers.size() >= MOST_DANCERS || now.whoIsAt(x, y) != null) {
            throw new IllegalStateException("the tile is taken, or the hall is full");
        }
        Dancer comer = new Dancer(now.dancers.size(), firstDance);
        comer.x = x;
        comer.y = y;
        comer.face = face;
        comer.cost = cost;
        now.dancers.add(comer);
        return comer.number;
    }

    public int dance(int dancer, int dance) throws IndexOutOfBoundsException {
        Dancer chooser = neededDancer(dancer);
        Dance chosen = neededDance(dance);
        int before = chooser.dance.number;
        chooser.dance = chosen;
        chooser.place = 0;
        return before;
    }

    public int pair(int leader, int other)
            throws IndexOutOfBoundsException, IllegalArgumentException, IllegalStateException {
        Dancer leading = neededDancer(leader);
        Dancer following = neededDancer(other);
        if (leader == other) {
            throw new IllegalArgumentException("nobody is a couple alone");
        }
        if (leading.partner != null || following.partner != null || !leading.isBeside(following)) {
            throw new IllegalStateException("one is in a couple, or they are not beside each other");
        }
        leading.partner = following;
        following.partner = leading;
        following.follows = true;
        return now.sumOfTold(TOLD_FOLLOWS);
    }

    public int part(int dancer) throws IndexOutOfBoundsException, IllegalStateException {
        Dancer one = neededDancer(dancer);
        Dancer other = one.partner;
        if (other == null) {
            throw new IllegalStateException("there is no couple");
        }
        one.standAlone();
        other.standAlone();
        return other.number;
    }

    public int wind(int dancer, int by) throws IndexOutOfBoundsException, IllegalArgumentException {
        Dancer wound = neededDancer(dancer);
        if (by < -MOST_WINDING || by > MOST_WINDING) {
            throw new IllegalArgumentException("nobody winds so much");
        }
        wound.windBy(by);
        return wound.spring;
    }

    public int dancer(int dancer, int what) throws IndexOutOfBoundsException {
        Dancer asked = neededDancer(dancer);
        needKind(what, DANCER_KINDS);
        return asked.tell(what);
    }

    public int at(int x, int y) throws IndexOutOfBoundsException {
        if (!isOnFloor(x, y)) {
            throw new IndexOutOfBoundsException("no such tile");
        }
        Dancer there = now.whoIsAt(x, y);
        return there == null ? -1 : there.number;
    }

    // ---- winders

    public int addWinder(int x, int y, int strength) throws IllegalArgumentException, IllegalStateException {
        if (!isOnFloor(x, y) || strength < 1 || strength > MOST_STRENGTH) {
            throw new IllegalArgumentException("no such tile or strength");
        }
        int number = now.winders.size();
        if (number >= MOST_WINDERS) {
            throw new IllegalStateException("there are enough winders");
        }
        Winder comer = new Winder();
        comer.x = x;
        comer.y = y;
        comer.strength = strength;
        now.winders.add(comer);
        return number;
    }

    public int call(int winder, int dancer) throws IndexOutOfBoundsException, IllegalStateException {
        Winder called = neededWinder(winder);
        Dancer added = neededDancer(dancer);
        if (called.roundLength >= LONGEST_ROUND) {
            throw new IllegalStateException("the round is full");
        }
        called.addToRound(added.number);
        return called.roundLength;
    }

    public int winder(int winder, int what) throws IndexOutOfBoundsException {
        Winder asked = neededWinder(winder);
        needKind(what, WINDER_KINDS);
        return asked.tell(what);
    }

    // ---- beats

    public int pass(int beats) throws IllegalArgumentException {
        needBeats(beats);
        int bumps = 0;
        for (int i = 0; i < beats; i++) {
            bumps += now.playBeat();
        }
        return bumps;
    }

    public int count(int what) throws IndexOutOfBoundsException {
        needKind(what, COUNT_KINDS);
        return now.countOf(what);
    }

    // ---- looking ahead

    public int foresee(int dancer, int beats, int what)
            throws IndexOutOfBoundsException, IllegalArgumentException {
        Dancer asked = neededDancer(dancer);
        needKind(what, FORESEEN_KINDS);
        needBeats(beats);
        ahead.startLike(now);
        for (int i = 0; i < beats; i++) {
            ahead.playBeat();
        }
        Dancer then = ahead.dancerOrNull(dancer);
        if (then == null) {
            return -1;
        }
        return what == FORESEEN_BUMPS ? then.bumps - asked.bumps : then.tell(what);
    }

    public int firstToStop(int beats) throws IllegalArgumentException {
        needBeats(beats);
        ahead.startLike(now);
        for (int i = 0; i < beats; i++) {
            ahead.playBeat();
            int stopped = ahead.firstNewlySpentSince(now);
            if (stopped >= 0) {
                return stopped;
            }
        }
        return -1;
    }

    public int meet(int a, int b, int beats) throws IndexOutOfBoundsException, IllegalArgumentException {
        neededDancer(a);
        neededDancer(b);
        if (a == b) {
            throw new IllegalArgumentException("nobody meets itself");
        }
        needBeats(beats);
        ahead.startLike(now);
        if (ahead.areBeside(a, b)) {
            return 0;
        }
        for (int passed = 1; passed <= beats; passed++) {
            ahead.playBeat();
            if (ahead.areBeside(a, b)) {
                return passed;
            }
        }
        return -1;
    }

    public double tension() {
        int dancers = now.dancers.size();
        return dancers == 0 ? 0.0 : (double) now.sumOfTold(TOLD_SPRING) / dancers;
    }

    public long digest() {
        long d = DIGEST_START;
        for (int what = 0; what < COUNT_KINDS; what++) {
            d = d * DIGEST_FACTOR + now.countOf(what);
        }
        for (int i = 0; i < dances.size(); i++) {
            d = dances.get(i).digestFrom(d);
        }
        for (int i = 0; i < now.dancers.size(); i++) {
            for (int what = 0; what < DANCER_KINDS; what++) {
                d = d * DIGEST_FACTOR + now.dancers.get(i).tell(what);
            }
        }
        for (int i = 0; i < now.winders.size(); i++) {
            for (int what = 0; what < WINDER_KINDS; what++) {
                d = d * DIGEST_FACTOR + now.winders.get(i).tell(what);
            }
        }
        return d;
    }

    // ---- what calls need

    private Dance neededDance(int number) {
        if (number < 0 || number >= dances.size()) {
            throw new IndexOutOfBoundsException("no such dance");
        }
        return dances.get(number);
    }

    private Dancer neededDancer(int number) {
        Dancer found = now.dancerOrNull(number);
        if (found == null) {
            throw new IndexOutOfBoundsException("no such dancer");
        }
        return found;
    }

    private Winder neededWinder(int number) {
        if (number < 0 || number >= now.winders.size()) {
            throw new IndexOutOfBoundsException("no such winder");
        }
        return now.winders.get(number);
    }

    private static void needKind(int what, int kinds) {
        if (what < 0 || what >= kinds) {
            throw new IndexOutOfBoundsException("nothing of that kind is told");
        }
    }

    private static void needBeats(int beats) {
        if (beats < 1 || beats > MOST_BEATS) {
            throw new IllegalArgumentException("beats are 1 to 200");
        }
    }

    // ---- tiles, directions and figures

    private static boolean isOnFloor(int x, int y) {
        return x >= 0 && x < SIDE && y >= 0 && y < SIDE;
    }

    private static int distance(int x1, int y1, int x2, int y2) {
        return Math.abs(x1 - x2) + Math.abs(y1 - y2);
    }

    private static int turned(int direction, int quarters) {
        return Math.floorMod(direction + quarters, DIRECTIONS);
    }

    private static int columnStep(int direction) {
        return direction == 1 ? 1 : direction == 3 ? -1 : 0;
    }

    private static int rowStep(int direction) {
        return direction == 0 ? -1 : direction == 2 ? 1 : 0;
    }

    private static boolean isWalk(int figure) {
        return figure == 'f' || figure == 'r' || figure == 'b' || figure == 'l';
    }

    private static boolean isFigure(int figure) {
        return isWalk(figure) || quartersTurnedBy(figure) != 0 || figure == SWAP || figure == REST;
    }

    private static int quartersToWayOf(int figure) {
        switch (figure) {
            case 'r':
                return 1;
            case 'b':
                return 2;
            case 'l':
                return 3;
            default:
                return 0;
        }
    }

    private static int quartersTurnedBy(int figure) {
        return figure == 't' ? 1 : figure == 'u' ? -1 : 0;
    }

    private static final class Tape {
        final byte[] bytes = new byte[TAPE_BYTES];
        int length;

        int bytesLeft() {
            return bytes.length - length;
        }

        void append(int number) {
            for (int shift = 24; shift >= 0; shift -= 8) {
                if (length >= 0 && length < bytes.length) {
                    bytes[length] = (byte) (number >>> shift);
                    length++;
                }
            }
        }

        boolean isDance() {
            if (length < 1 || length > MOST_FIGURES) {
                return false;
            }
            for (int i = 0; i < length && i < bytes.length; i++) {
                if (!isFigure(bytes[i])) {
                    return false;
                }
            }
            return true;
        }
    }

    private static final class Dance {
        final int number;
        final byte[] figures = new byte[MOST_FIGURES];
        int length;

        Dance(int number, String letters) {
            this.number = number;
            for (int i = 0; i < letters.length() && i < figures.length; i++) {
                figures[i] = (byte) letters.charAt(i);
                length = i + 1;
            }
        }

        boolean takeFrom(Tape tape) {
            if (!tape.isDance()) {
                return false;
            }
            length = Math.min(tape.length, figures.length);
            for (int i = 0; i < length && i < figures.length && i < tape.bytes.length; i++) {
                figures[i] = tape.bytes[i];
            }
            return true;
        }

        int figureAt(int place) {
            return place >= 0 && place < length && place < figures.length ? figures[place] : REST;
        }

        int placeBehind(int place) {
            return place + 1 < length ? place + 1 : 0;
        }

        int driftOf(int what) {
            int x = 0;
            int y = 0;
            int face = 0;
            for (int place = 0; place < length; place++) {
                int figure = figureAt(place);
                if (isWalk(figure)) {
                    int way = turned(face, quartersToWayOf(figure));
                    x += columnStep(way);
                    y += rowStep(way);
                }
                face = turned(face, quartersTurnedBy(figure));
            }
            switch (what) {
                case 0:
                    return x;
                case 1:
                    return y;
                case 2:
                    return face;
                default:
                    return roundsToStart(x, y, face);
            }
        }

        // Rounds that end with another face lead, each turned by it, round to where they began.
        private static int roundsToStart(int x, int y, int face) {
            if (face == 0) {
                return x == 0 && y == 0 ? 1 : -1;
            }
            return face == 2 ? 2 : 4;
        }

        long digestFrom(long start) {
            long d = start * DIGEST_FACTOR + length;
            for (int place = 0; place < length; place++) {
                d = d * DIGEST_FACTOR + figureAt(place);
            }
            return d;
        }
    }

    private static final class Dancer {
        final int number;
        int x;
        int y;
        int face;
        int spring = FIRST_SPRING;
        int cost = 1;
        Dance dance;
        int place;
        Dancer partner;
        boolean follows;
        int dizzy;
        int figuresDone;
        int bumps;
        // Where the figure under way would lead; both of a couple are asked before one of them goes.
        int goalX;
        int goalY;

        Dancer(int number, Dance dance) {
            this.number = number;
            this.dance = dance;
        }

        // The floor sets the partner, who has to be one of its own dancers.
        void becomeLike(Dancer original) {
            x = original.x;
            y = original.y;
            face = original.face;
            spring = original.spring;
            cost = original.cost;
            dance = original.dance;
            place = original.place;
            follows = original.follows;
            dizzy = original.dizzy;
            figuresDone = original.figuresDone;
            bumps = original.bumps;
        }

        void standAlone() {
            partner = null;
            follows = false;
        }

        boolean isBeside(Dancer other) {
            return distance(x, y, other.x, other.y) == 1;
        }

        boolean isSpent() {
            return spring < cost;
        }

        boolean canDance() {
            return dizzy == 0 && !isSpent();
        }

        void windBy(int by) {
            spring = Math.max(0, Math.min(FULL_SPRING, spring + by));
        }

        void aimAt(int column, int row) {
            goalX = column;
            goalY = row;
        }

        void aimFrom(int column, int row, int direction) {
            aimAt(column + columnStep(direction), row + rowStep(direction));
        }

        boolean aimsOffFloor() {
            return !isOnFloor(goalX, goalY);
        }

        void goAndTurn(int quarters) {
            x = goalX;
            y = goalY;
            face = turned(face, quarters);
            spring -= cost;
            figuresDone++;
        }

        void stagger() {
            dizzy = DIZZY_BEATS;
            bumps++;
        }

        int directionTo(Dancer neighbour) {
            if (neighbour.x != x) {
                return neighbour.x > x ? 1 : 3;
            }
            return neighbour.y > y ? 2 : 0;
        }

        int tell(int what) {
            switch (what) {
                case 0:
                    return x;
                case 1:
                    return y;
                case 2:
                    return face;
                case 3:
                    return spring;
                case 4:
                    return cost;
                case 5:
                    return dance.number;
                case 6:
                    return place;
                case 7:
                    return partner == null ? -1 : partner.number;
                case 8:
                    return follows ? 1 : 0;
                case 9:
                    return dizzy;
                case 10:
                    return figuresDone;
                default:
                    return bumps;
            }
        }
    }

    private static final class Winder {
        int x;
        int y;
        int strength;
        final int[] round = new int[LONGEST_ROUND];
        int roundLength;
        int turn;
        int windings;

        void becomeLike(Winder original) {
            x = original.x;
            y = original.y;
            strength = original.strength;
            roundLength = original.roundLength;
            for (int i = 0; i < round.length && i < original.round.length; i++) {
                round[i] = original.round[i];
            }
            turn = original.turn;
            windings = original.windings;
        }

        void addToRound(int dancer) {
            if (roundLength >= 0 && roundLength < round.length) {
                round[roundLength] = dancer;
                roundLength++;
            }
        }

        int whoseTurn() {
            return turn >= 0 && turn < roundLength && turn < round.length ? round[turn] : -1;
        }

        void attend(Dancer dancer) {
            int tiles = distance(x, y, dancer.x, dancer.y);
            if (dancer.spring >= WOUND_ENOUGH) {
                passTurn();
            } else if (tiles <= 1) {
                dancer.windBy(strength);
                windings++;
                passTurn();
            } else if (x != dancer.x) {
                x += dancer.x > x ? 1 : -1;
            } else {
                y += dancer.y > y ? 1 : -1;
            }
        }

        private void passTurn() {
            turn = turn + 1 < roundLength ? turn + 1 : 0;
        }

        int tell(int what) {
            switch (what) {
                case 0:
                    return x;
                case 1:
                    return y;
                case 2:
                    return strength;
                case 3:
                    return roundLength;
                case 4:
                    return whoseTurn();
                default:
                    return windings;
            }
        }
    }

    private static final class Floor {
        final ArrayList<Dancer> dancers = new ArrayList<>();
        final ArrayList<Winder> winders = new ArrayList<>();
        int beat;

        Dancer dancerOrNull(int number) {
            return number >= 0 && number < dancers.size() ? dancers.get(number) : null;
        }

        Dancer whoIsAt(int x, int y) {
            for (int i = 0; i < dancers.size(); i++) {
                Dancer dancer = dancers.get(i);
                if (dancer.x == x && dancer.y == y) {
                    return dancer;
                }
            }
            return null;
        }

        boolean areBeside(int a, int b) {
            Dancer one = dancerOrNull(a);
            Dancer other = dancerOrNull(b);
            return one != null && other != null && one.isBeside(other);
        }

        void restartBehindTheEndOf(Dance dance) {
            for (int i = 0; i < dancers.size(); i++) {
                Dancer dancer = dancers.get(i);
                if (dancer.dance == dance && dancer.place >= dance.length) {
                    dancer.place = 0;
                }
            }
        }

        // Nobody ever leaves, so the objects made once serve for every look ahead.
        void startLike(Floor original) {
            beat = original.beat;
            for (int i = dancers.size(); i < original.dancers.size(); i++) {
                dancers.add(new Dancer(i, original.dancers.get(i).dance));
            }
            for (int i = 0; i < dancers.size() && i < original.dancers.size(); i++) {
                Dancer model = original.dancers.get(i);
                dancers.get(i).becomeLike(model);
                dancers.get(i).partner = model.partner == null ? null : dancerOrNull(model.partner.number);
            }
            for (int i = winders.size(); i < original.winders.size(); i++) {
                winders.add(new Winder());
            }
            for (int i = 0; i < winders.size() && i < original.winders.size(); i++) {
                winders.get(i).becomeLike(original.winders.get(i));
            }
        }

        int playBeat() {
            int bumps = 0;
            for (int i = 0; i < dancers.size(); i++) {
                Dancer dancer = dancers.get(i);
                if (!dancer.follows && mayPerform(dancer)) {
                    bumps += perform(dancer);
                }
            }
            for (int i = 0; i < winders.size(); i++) {
                Dancer attended = dancerOrNull(winders.get(i).whoseTurn());
                if (attended != null) {
                    winders.get(i).attend(attended);
                }
            }
            for (int i = 0; i < dancers.size(); i++) {
                Dancer dancer = dancers.get(i);
                dancer.dizzy = Math.max(0, dancer.dizzy - 1);
            }
            beat++;
            return bumps;
        }

        private static boolean mayPerform(Dancer leader) {
            return leader.canDance() && (leader.partner == null || leader.partner.canDance());
        }

        private int perform(Dancer leader) {
            Dancer follower = leader.partner;
            int figure = leader.dance.figureAt(leader.place);
            leader.place = leader.dance.placeBehind(leader.place);
            aim(leader, figure);
            Dancer inLeadersWay = whoIsInTheWayOf(leader);
            Dancer inFollowersWay = follower == null ? null : whoIsInTheWayOf(follower);
            boolean offFloor = leader.aimsOffFloor() || (follower != null && follower.aimsOffFloor());
            if (offFloor || inLeadersWay != null || inFollowersWay != null) {
                // The goals of both are never one tile, so nobody is in the way twice.
                return bump(leader) + bump(follower) + bump(inLeadersWay) + bump(inFollowersWay);
            }
            leader.goAndTurn(quartersTurnedBy(figure));
            if (follower != null) {
                follower.goAndTurn(quartersTurnedBy(figure));
            }
            return 0;
        }

        private static void aim(Dancer leader, int figure) {
            Dancer follower = leader.partner;
            leader.aimAt(leader.x, leader.y);
            if (isWalk(figure)) {
                leader.aimFrom(leader.x, leader.y, turned(leader.face, quartersToWayOf(figure)));
            }
            if (follower == null) {
                return;
            }
            follower.aimAt(follower.x, follower.y);
            if (isWalk(figure)) {
                follower.aimFrom(follower.x, follower.y, turned(leader.face, quartersToWayOf(figure)));
            } else if (figure == SWAP) {
                leader.aimAt(follower.x, follower.y);
                follower.aimAt(leader.x, leader.y);
            } else if (quartersTurnedBy(figure) != 0) {
                int side = turned(leader.directionTo(follower), quartersTurnedBy(figure));
                follower.aimFrom(leader.x, leader.y, side);
            }
        }

        // The partner is no hindrance: it goes, too, or changes places.
        private Dancer whoIsInTheWayOf(Dancer goer) {
            Dancer there = whoIsAt(goer.goalX, goer.goalY);
            return there == goer || there == goer.partner ? null : there;
        }

        private static int bump(Dancer dancer) {
            if (dancer == null) {
                return 0;
            }
            dancer.stagger();
            return 1;
        }

        int firstNewlySpentSince(Floor earlier) {
            for (int i = 0; i < dancers.size() && i < earlier.dancers.size(); i++) {
                if (dancers.get(i).isSpent() && !earlier.dancers.get(i).isSpent()) {
                    return i;
                }
            }
            return -1;
        }

        int sumOfTold(int what) {
            int sum = 0;
            for (int i = 0; i < dancers.size(); i++) {
                sum += dancers.get(i).tell(what);
            }
            return sum;
        }

        private int dizzyOnes() {
            int dizzy = 0;
            for (int i = 0; i < dancers.size(); i++) {
                dizzy += dancers.get(i).dizzy > 0 ? 1 : 0;
            }
            return dizzy;
        }

        private int spentOnes() {
            int spent = 0;
            for (int i = 0; i < dancers.size(); i++) {
                spent += dancers.get(i).isSpent() ? 1 : 0;
            }
            return spent;
        }

        int countOf(int what) {
            switch (what) {
                case 0:
                    return beat;
                case 1:
                    return dancers.size();
                case 2:
                    return sumOfTold(TOLD_FOLLOWS);
                case 3:
                    return winders.size();
                case 4:
                    return dizzyOnes();
                case 5:
                    return sumOfTold(TOLD_SPRING);
                case 6:
                    return sumOfTold(TOLD_FIGURES);
                case 7:
                    return sumOfTold(TOLD_BUMPS);
                default:
                    return spentOnes();
            }
        }
    }
}
