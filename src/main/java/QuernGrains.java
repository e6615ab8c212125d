import java.util.Arrays;

/**
 * Grains on a quern: faces of stones that grains come on by use, at steps of a book by areas,
 * washed off again; sorts with waves of four heights, a reader who slips; told in a text with
 * the first fault.
 */
public final class QuernGrains {
    public static final int BAD = -1, NO = -2, FULL = -3, NONE = -4;

    private static final int LONGEST_TEXT = 500;
    private static final int MOST_SORTS = 6;
    private static final int MOST_PATCHES = 10;
    private static final int STEPS = 4;
    private static final int STEP_SETS = 16;
    private static final int WAVES = 4;
    private static final int USE = 4;
    private static final int ORIGINS = 5;
    private static final int WORN = 0;
    private static final int CONTROL = 3;
    private static final int GREATEST_COUNT = 99;
    private static final int GREATEST_DOUBT = 99;
    private static final int MOST_BLIND = 200;
    private static final int MOST_KEPT = 2;
    private static final int BAD_LEAN = -1000;

    private final Text text = new Text();
    private final Scribe scribe = new Scribe();
    private final Books fitting = new Books();
    private final Heap waveHeap = new Heap();
    private final Finds finds = new Finds();
    private final Finds[] kept = new Finds[MOST_KEPT];
    private int keptCount;
    private Quern laid = new Quern();
    private Quern spare = new Quern();

    public QuernGrains() {
        for (int i = 0; i < MOST_KEPT; i++) {
            kept[i] = new Finds();
        }
        laid.beAsAtFirst();
    }

    // ---- stones

    public int write(int n, long v) {
        if (!within(n, 1, 8)) {
            return BAD;
        }
        if (text.length + n > LONGEST_TEXT) {
            return FULL;
        }
        for (int i = n - 1; i >= 0; i--) {
            text.put((int) (v >>> (8 * i)) & 255);
        }
        return text.length;
    }

    public int wipe() {
        int was = text.length;
        text.clear();
        return was;
    }

    public int fault() {
        return scribe.placeOfFault(text, spare);
    }

    public int lay() {
        if (scribe.placeOfFault(text, spare) != NONE || spare.sorts == 0 || spare.patches == 0) {
            return NO;
        }
        Quern old = laid;
        laid = spare;
        spare = old;
        finds.clear();
        keptCount = 0;
        return laid.patches;
    }

    public int face(int f, int what) {
        if (!laid.hasPatch(f)) {
            return BAD;
        }
        switch (what) {
            case 0: return laid.stone[f];
            case 1: return laid.kind[f];
            case 2: return laid.area[f];
            case 3: return laid.steps[f];
            case 4: return finds.isRead(f) ? 1 : 0;
            default: return BAD;
        }
    }

    public int lies(int f, int s, int origin) {
        if (!laid.hasPatch(f) || !laid.hasSort(s) || !within(origin, -1, USE)) {
            return BAD;
        }
        return origin == -1 ? laid.lyingOfAll(f, s) : laid.lying(f, s, origin);
    }

    public int read(int f, int z, int s) {
        if (!laid.hasPatch(f) || !within(z, 0, 9999) || !laid.hasSort(s)) {
            return BAD;
        }
        return laid.calledOn(f, z, s);
    }

    // ---- odds

    public long more(int a, int areaA, int b, int areaB, int part) {
        if (!within(a, 0, 12) || !within(b, 0, 12 - a) || !within(part, 0, 1)) {
            return BAD;
        }
        if (!within(areaA, 1, 9) || !within(areaB, 1, 9)) {
            return BAD;
        }
        int n = a + b;
        return Odds.inLowestTerms(Odds.waysOfAtLeast(a, n, areaA, areaB), Odds.power(areaA + areaB, n), part);
    }

    public int says(int areaA, int areaB, int q) {
        if (!within(areaA, 1, 9) || !within(areaB, 1, 9) || !within(q, 1, 1000)) {
            return BAD;
        }
        for (int a = 0; a <= 12; a++) {
            if (Odds.areRare(a, areaA, areaB, q)) {
                return a;
            }
        }
        return NONE;
    }

    public int controls(int a, int areaA, int q) {
        if (!within(a, 1, 9) || !within(areaA, 1, 9) || !within(q, 1, 1000)) {
            return BAD;
        }
        for (int areaB = 1; areaB <= 99; areaB++) {
            if (Odds.areRare(a, areaA, areaB, q)) {
                return areaB;
            }
        }
        return NONE;
    }

    public long heap(int s, int zero, int one, int two, int three, int part) {
        if (!laid.hasSort(s) || !within(part, 0, 1) || !waveHeap.pile(zero, one, two, three, 8)) {
            return BAD;
        }
        long sum = 0;
        for (int other = 0; other < laid.sorts; other++) {
            sum += waveHeap.productOf(laid.waves[other]);
        }
        return sum == 0 ? NONE : Odds.inLowestTerms(waveHeap.productOf(laid.waves[s]), sum, part);
    }

    public int most(int zero, int one, int two, int three) {
        if (!waveHeap.pile(zero, one, two, three, 8)) {
            return BAD;
        }
        int likeliest = NONE;
        long greatest = 0;
        for (int s = 0; s < laid.sorts; s++) {
            long product = waveHeap.productOf(laid.waves[s]);
            if (product > greatest) {
                greatest = product;
                likeliest = s;
            }
        }
        return likeliest;
    }

    public int shares(int p, int q, int zero, int one, int two, int three) {
        if (!laid.hasSort(p) || !laid.hasSort(q) || p == q) {
            return BAD;
        }
        if (!waveHeap.pile(zero, one, two, three, 6)) {
            return BAD;
        }
        return waveHeap.bestShare(laid.waves[p], laid.waves[q]);
    }

    public int kin(int d, int s) {
        if (!within(d, 0, 200) || s != -1 && !laid.hasSort(s)) {
            return BAD;
        }
        return s == -1 ? laid.kinsOf(d) : laid.lowestKin(s, d);
    }

    public int cooked(int s, int c, int wave) {
        if (!laid.hasSort(s) || !within(c, 0, 100) || !within(wave, 0, WAVES)) {
            return BAD;
        }
        return wave == WAVES ? laid.likeCooked(s, c) : laid.cookedWave(s, c, wave);
    }

    // ---- counts

    public int count(int f, int s, int v) {
        if (!laid.hasPatch(f) || !laid.hasSort(s) || !within(v, 0, GREATEST_COUNT)) {
            return BAD;
        }
        return finds.tell(f, s, v);
    }

    public int books(int s, int e, int step, boolean most) {
        if (!laid.hasSort(s) || !isDoubt(e) || !within(step, -1, STEPS - 1)) {
            return BAD;
        }
        fitting.search(laid, finds, s, e, step == -1 ? 0 : 1 << step);
        if (step == -1) {
            return fitting.fits;
        }
        if (fitting.fits == 0) {
            return NONE;
        }
        return most ? fitting.greatestSum : fitting.leastSum;
    }

    public int ground(int f, int s, int e, boolean most) {
        if (!laid.hasPatch(f) || !laid.hasSort(s) || !isDoubt(e)) {
            return BAD;
        }
        return groundOn(f, s, e, most);
    }

    public int sure(int f, int e) {
        if (!laid.hasPatch(f) || !isDoubt(e)) {
            return BAD;
        }
        return surelyGround(f, e);
    }

    public int leave(int h, int what) {
        if (!within(h, 0, 399) || !within(what, 0, 1)) {
            return BAD;
        }
        int set = laid.bestLeftOut(h);
        return set == NONE || what == 0 ? set : laid.grainsWithout(set);
    }

    // ---- readers, teeth

    public int blind(int s, int t) {
        if (!laid.hasSort(s) || !laid.hasSort(t)) {
            return BAD;
        }
        if (finds.blindInAll >= MOST_BLIND) {
            return FULL;
        }
        return finds.tellBlind(s, t);
    }

    public int slips(int s, int t, int part) {
        if (!laid.hasSort(s) || !laid.hasSort(t) || !within(part, 0, 1)) {
            return BAD;
        }
        int were = finds.blindThatWere(s);
        return were == 0 ? NONE : (int) Odds.inLowestTerms(finds.blindSo[s][t], were, part);
    }

    public int lean(int t) {
        if (!laid.hasSort(t)) {
            return BAD_LEAN;
        }
        return finds.blindCalled(t) - finds.blindThatWere(t);
    }

    public int right(int t, int c) {
        if (!laid.hasSort(t) || !within(c, 0, 999)) {
            return BAD;
        }
        int called = finds.blindCalled(t);
        return called == 0 ? NONE : c * finds.blindThatWere(t) / called;
    }

    public int teeth(int set) {
        if (!within(set, 0, (1 << laid.sorts) - 1)) {
            return BAD;
        }
        int was = finds.shutIn;
        finds.shutIn = set;
        return was;
    }

    public int eaten(int f, int e) {
        if (!laid.hasPatch(f) || !isDoubt(e)) {
            return BAD;
        }
        return surelyGround(f, e) & finds.shutIn;
    }

    public int next() {
        int best = NONE;
        int greatest = -1;
        for (int f = 0; f < laid.patches; f++) {
            if (laid.kind[f] != WORN || finds.isRead(f)) {
                continue;
            }
            int area = readAreaOf(laid.stone[f]);
            if (area > greatest) {
                greatest = area;
                best = f;
            }
        }
        return best;
    }

    public int keep() {
        if (keptCount >= MOST_KEPT) {
            return FULL;
        }
        kept[keptCount].copyFrom(finds);
        keptCount++;
        return keptCount;
    }

    public int back() {
        if (keptCount == 0) {
            return NO;
        }
        keptCount--;
        finds.copyFrom(kept[keptCount]);
        return keptCount;
    }

    public int size(int what) {
        switch (what) {
            case 0: return laid.sorts;
            case 1: return laid.patches;
            case 2: return text.length;
            case 3: return finds.blindInAll;
            case 4: return keptCount;
            case 5: return Integer.bitCount(finds.readPatches);
            default: return BAD;
        }
    }

    private int groundOn(int f, int s, int e, boolean greatest) {
        fitting.search(laid, finds, s, e, laid.steps[f]);
        if (fitting.fits == 0) {
            return NONE;
        }
        // the more came by the book, the less was ground
        int byBook = greatest ? fitting.leastSum : fitting.greatestSum;
        return Math.max(0, finds.counts[f][s] - byBook * laid.area[f]);
    }

    private int surelyGround(int f, int e) {
        int set = 0;
        for (int s = 0; s < laid.sorts; s++) {
            if (groundOn(f, s, e, false) > 0) {
                set |= 1 << s;
            }
        }
        return set;
    }

    private int readAreaOf(int stone) {
        int area = 0;
        for (int f = 0; f < laid.patches; f++) {
            if (laid.stone[f] == stone && laid.kind[f] != WORN && finds.isRead(f)) {
                area += laid.area[f];
            }
        }
        return area;
    }

    private static boolean isDoubt(int e) {
        return within(e, 0, GREATEST_DOUBT);
    }

    private static boolean within(int v, int least, int greatest) {
        return v >= least && v <= greatest;
    }

    /** THE TEXT, as it is written. */
    private static final class Text {
        final int[] bytes = new int[LONGEST_TEXT];
        int length;

        void put(int b) {
            if (length < LONGEST_TEXT) {
                bytes[length] = b;
                length++;
            }
        }

        void clear() {
            length = 0;
        }

        int at(int place) {
            return place >= 0 && place < length ? bytes[place] : -1;
        }

        boolean isFigure(int place) {
            return at(place) >= '0' && at(place) <= '9';
        }
    }

    /** Takes a TEXT apart into ITEMS. */
    private static final class Scribe {
        private static final int NO_ITEM = -1;
        private final int[] numbers = new int[4];

        /** What was told ahead of the fault stays in the quern: only one without fault is used. */
        int placeOfFault(Text text, Quern quern) {
            quern.clear();
            int place = 0;
            for (int items = 0; items < LONGEST_TEXT && place < text.length; items++) {
                int behind = placeBehindItem(text, place);
                if (behind == NO_ITEM || !quern.take(text.at(place), numbers)) {
                    return place;
                }
                place = behind;
            }
            return NONE;
        }

        private int placeBehindItem(Text text, int start) {
            int wanted = numbersOf(text.at(start));
            if (wanted == 0) {
                return NO_ITEM;
            }
            int place = start + 1;
            for (int i = 0; i < wanted; i++) {
                int figures = figuresAt(text, place);
                if (figures == 0) {
                    return NO_ITEM;
                }
                numbers[i] = numberAt(text, place, figures);
                place += figures;
                if (text.at(place) != (i == wanted - 1 ? ';' : ',')) {
                    return NO_ITEM;
                }
                place++;
            }
            return place;
        }

        private static int numbersOf(int letter) {
            switch (letter) {
                case 'g': case 'f': return 4;
                case 'u': case 'b': case 't': case 'x': return 3;
                case 'w': return 2;
                default: return 0;
            }
        }

        private static int figuresAt(Text text, int place) {
            int figures = 0;
            while (figures < 3 && text.isFigure(place + figures)) {
                figures++;
            }
            return figures;
        }

        private static int numberAt(Text text, int place, int figures) {
            int number = 0;
            for (int i = 0; i < figures; i++) {
                number = number * 10 + text.at(place + i) - '0';
            }
            return number;
        }
    }

    /** What a TEXT tells: sorts, patches, use, steps and the reader. */
    private static final class Quern {
        int sorts;
        int patches;
        final int[][] waves = new int[MOST_SORTS][WAVES];
        final int[] stone = new int[MOST_PATCHES];
        final int[] kind = new int[MOST_PATCHES];
        final int[] area = new int[MOST_PATCHES];
        final int[] steps = new int[MOST_PATCHES];
        private final int[][] used = new int[MOST_PATCHES][MOST_SORTS];
        private final int[][] booked = new int[STEPS][MOST_SORTS];
        private final int[] washed = new int[STEPS];
        private final int[] hours = new int[STEPS];
        private int mustBe;
        private final int[][] slipping = new int[MOST_SORTS][MOST_SORTS];

        void clear() {
            sorts = 0;
            patches = 0;
            mustBe = 0;
            for (int f = 0; f < MOST_PATCHES; f++) {
                Arrays.fill(used[f], 0);
            }
            for (int step = 0; step < STEPS; step++) {
                Arrays.fill(booked[step], 0);
            }
            for (int s = 0; s < MOST_SORTS; s++) {
                Arrays.fill(slipping[s], 0);
            }
            Arrays.fill(washed, 0);
            Arrays.fill(hours, 0);
        }

        /** On a new one: g100,0,0,0;f0,0,1,0; */
        void beAsAtFirst() {
            waves[0][0] = 100;
            sorts = 1;
            area[0] = 1;
            patches = 1;
        }

        boolean hasSort(int s) {
            return s >= 0 && s < sorts;
        }

        boolean hasPatch(int f) {
            return f >= 0 && f < patches;
        }

        /** False, and nothing is taken, if the numbers are none that the letter may have. */
        boolean take(int letter, int[] n) {
            switch (letter) {
                case 'g': return takeSort(n);
                case 'f': return takePatch(n);
                case 'u': return takeUse(n[0], n[1], n[2]);
                case 'b': return takeBook(n[0], n[1], n[2]);
                case 'w': return takeWash(n[0], n[1]);
                case 't': return takeHours(n[0], n[1], n[2]);
                case 'x': return takeSlip(n[0], n[1], n[2]);
                default: return false;
            }
        }

        private boolean takeSort(int[] n) {
            if (sorts >= MOST_SORTS || n[0] + n[1] + n[2] + n[3] != 100) {
                return false;
            }
            System.arraycopy(n, 0, waves[sorts], 0, WAVES);
            sorts++;
            return true;
        }

        private boolean takePatch(int[] n) {
            if (patches >= MOST_PATCHES || !within(n[0], 0, 7) || !within(n[1], 0, 3)) {
                return false;
            }
            if (!within(n[2], 1, 9) || !within(n[3], 0, STEP_SETS - 1)) {
                return false;
            }
            stone[patches] = n[0];
            kind[patches] = n[1];
            area[patches] = n[2];
            steps[patches] = n[3];
            patches++;
            return true;
        }

        private boolean takeUse(int f, int s, int grains) {
            if (!hasPatch(f) || !hasSort(s) || !within(grains, 0, 60)) {
                return false;
            }
            used[f][s] = grains;
            return true;
        }

        private boolean takeBook(int step, int s, int grains) {
            if (!isStep(step) || !hasSort(s) || !within(grains, 0, 9)) {
                return false;
            }
            booked[step][s] = grains;
            return true;
        }

        private boolean takeWash(int step, int hundredths) {
            if (!isStep(step) || !within(hundredths, 0, 99)) {
                return false;
            }
            washed[step] = hundredths;
            return true;
        }

        private boolean takeHours(int step, int saved, int must) {
            if (!isStep(step) || !within(saved, 0, 99) || !within(must, 0, 1)) {
                return false;
            }
            hours[step] = saved;
            mustBe = mustBe & ~(1 << step) | must << step;
            return true;
        }

        private boolean takeSlip(int s, int t, int hundredths) {
            if (!hasSort(s) || !hasSort(t) || s == t || !within(hundredths, 0, 99)) {
                return false;
            }
            // what was told of both before counts no more
            int together = hundredths - slipping[s][t];
            for (int other = 0; other < sorts; other++) {
                together += slipping[s][other];
            }
            if (together > 100) {
                return false;
            }
            slipping[s][t] = hundredths;
            return true;
        }

        private static boolean isStep(int step) {
            return step >= 0 && step < STEPS;
        }

        int lying(int f, int s, int origin) {
            int grains = origin == USE ? used[f][s] : 0;
            for (int step = 0; step < STEPS; step++) {
                if ((steps[f] >> step & 1) == 0) {
                    continue;
                }
                grains -= grains * washed[step] / 100;
                if (step == origin) {
                    grains += booked[step][s] * area[f];
                }
            }
            return grains;
        }

        int lyingOfAll(int f, int s) {
            int grains = 0;
            for (int origin = 0; origin < ORIGINS; origin++) {
                grains += lying(f, s, origin);
            }
            return grains;
        }

        int calledOn(int f, int z, int asked) {
            int called = 0;
            int t = 0;
            for (int s = 0; s < sorts; s++) {
                // origins one behind the other are called alike: only the sort and t are asked
                int behind = t + lyingOfAll(f, s);
                for (; t < behind; t++) {
                    if (calledBy(s, draw(f, z, t)) == asked) {
                        called++;
                    }
                }
            }
            return called;
        }

        private static int draw(int f, int z, int t) {
            long x = 7919L * z + 6151L * t + 3571L * f + 1;
            return (int) (x * x % 65521 % 100);
        }

        private int calledBy(int s, int r) {
            int together = 0;
            for (int t = 0; t < sorts; t++) {
                together += slipping[s][t];
                if (r < together) {
                    return t;
                }
            }
            return s;
        }

        int kinsOf(int d) {
            int kins = 0;
            for (int s = 0; s < sorts; s++) {
                if (lowestKin(s, d) == s) {
                    kins++;
                }
            }
            return kins;
        }

        int lowestKin(int s, int d) {
            int found = 1 << s;
            // each round reaches one more on the way, so as many rounds as sorts reach all
            for (int round = 1; round < sorts; round++) {
                for (int a = 0; a < sorts; a++) {
                    if ((found >> a & 1) != 0) {
                        found |= nearOnes(a, d);
                    }
                }
            }
            return Integer.numberOfTrailingZeros(found);
        }

        private int nearOnes(int s, int d) {
            int near = 0;
            for (int other = 0; other < sorts; other++) {
                if (differenceOfCooked(s, 0, other) <= d) {
                    near |= 1 << other;
                }
            }
            return near;
        }

        int likeCooked(int s, int c) {
            int like = 0;
            for (int other = 1; other < sorts; other++) {
                if (differenceOfCooked(s, c, other) < differenceOfCooked(s, c, like)) {
                    like = other;
                }
            }
            return like;
        }

        private int differenceOfCooked(int s, int c, int other) {
            int difference = 0;
            for (int wave = 0; wave < WAVES; wave++) {
                difference += Math.abs(cookedWave(s, c, wave) - waves[other][wave]);
            }
            return difference;
        }

        int cookedWave(int s, int c, int wave) {
            int goes = wave < WAVES - 1 ? waves[s][wave] * c / 100 : 0;
            int comes = wave > 0 ? waves[s][wave - 1] * c / 100 : 0;
            return waves[s][wave] - goes + comes;
        }

        int bestLeftOut(int h) {
            int best = NONE;
            int fewest = 0;
            for (int set = 0; set < STEP_SETS; set++) {
                if ((set & mustBe) != 0 || hoursSaved(set) < h) {
                    continue;
                }
                int grains = grainsWithout(set);
                if (best == NONE || grains < fewest) {
                    best = set;
                    fewest = grains;
                }
            }
            return best;
        }

        private int hoursSaved(int set) {
            int saved = 0;
            for (int step = 0; step < STEPS; step++) {
                if ((set >> step & 1) != 0) {
                    saved += hours[step];
                }
            }
            return saved;
        }

        int grainsWithout(int set) {
            int grains = 0;
            for (int step = 0; step < STEPS; step++) {
                if ((set >> step & 1) != 0) {
                    continue;
                }
                for (int s = 0; s < sorts; s++) {
                    grains += booked[step][s];
                }
            }
            return grains;
        }
    }

    /** Odds in whole numbers. */
    private static final class Odds {
        /** Of (areaA + areaB) to the n. */
        static long waysOfAtLeast(int a, int n, int areaA, int areaB) {
            long ways = 0;
            long choices = 1;
            for (int onA = 0; onA <= n; onA++) {
                if (onA >= a) {
                    ways += choices * power(areaA, onA) * power(areaB, n - onA);
                }
                choices = choices * (n - onA) / (onA + 1);
            }
            return ways;
        }

        /** If a on areaA and nothing on areaB by chance is 1 by q or less. */
        static boolean areRare(int a, int areaA, int areaB, int q) {
            return power(areaA, a) * q <= power(areaA + areaB, a);
        }

        static long power(long base, int times) {
            long product = 1;
            for (int i = 0; i < times; i++) {
                product *= base;
            }
            return product;
        }

        static long inLowestTerms(long above, long below, int part) {
            long asked = part == 0 ? above : below;
            long common = commonDivisor(above, below);
            return common == 0 ? asked : asked / common;
        }

        private static long commonDivisor(long a, long b) {
            long greater = a;
            long less = b;
            // Euclid needs fewer than 100 rounds for any two longs
            for (int round = 0; round < 100 && less != 0; round++) {
                long rest = greater % less;
                greater = less;
                less = rest;
            }
            return greater;
        }
    }

    /** How many waves of each height are seen. */
    private static final class Heap {
        private final int[] high = new int[WAVES];

        /** False if they are not so many waves as a heap may have. */
        boolean pile(int zero, int one, int two, int three, int limit) {
            if (!within(zero, 0, limit) || !within(one, 0, limit - zero)) {
                return false;
            }
            if (!within(two, 0, limit - zero - one) || !within(three, 0, limit - zero - one - two)) {
                return false;
            }
            high[0] = zero;
            high[1] = one;
            high[2] = two;
            high[3] = three;
            return true;
        }

        long productOf(int[] hundredths) {
            return productOfMix(1, hundredths, 0, hundredths);
        }

        int bestShare(int[] p, int[] q) {
            int best = 0;
            long greatest = -1;
            for (int t = 0; t <= 10; t++) {
                long product = productOfMix(t, p, 10 - t, q);
                if (product > greatest) {
                    greatest = product;
                    best = t;
                }
            }
            return best;
        }

        private long productOfMix(int partsP, int[] p, int partsQ, int[] q) {
            long product = 1;
            for (int wave = 0; wave < WAVES; wave++) {
                product *= Odds.power(partsP * p[wave] + partsQ * q[wave], high[wave]);
            }
            return product;
        }
    }

    /** What is found and can be kept: counts, what is read, blind ones, teeth. */
    private static final class Finds {
        final int[][] counts = new int[MOST_PATCHES][MOST_SORTS];
        final int[][] blindSo = new int[MOST_SORTS][MOST_SORTS];
        int readPatches;
        int blindInAll;
        int shutIn;

        void clear() {
            for (int f = 0; f < MOST_PATCHES; f++) {
                Arrays.fill(counts[f], 0);
            }
            for (int s = 0; s < MOST_SORTS; s++) {
                Arrays.fill(blindSo[s], 0);
            }
            readPatches = 0;
            blindInAll = 0;
            shutIn = 0;
        }

        void copyFrom(Finds other) {
            for (int f = 0; f < MOST_PATCHES; f++) {
                System.arraycopy(other.counts[f], 0, counts[f], 0, MOST_SORTS);
            }
            for (int s = 0; s < MOST_SORTS; s++) {
                System.arraycopy(other.blindSo[s], 0, blindSo[s], 0, MOST_SORTS);
            }
            readPatches = other.readPatches;
            blindInAll = other.blindInAll;
            shutIn = other.shutIn;
        }

        boolean isRead(int f) {
            return (readPatches >> f & 1) != 0;
        }

        int tell(int f, int s, int v) {
            int was = counts[f][s];
            counts[f][s] = v;
            readPatches |= 1 << f;
            return was;
        }

        int tellBlind(int s, int t) {
            blindSo[s][t]++;
            blindInAll++;
            return blindSo[s][t];
        }

        int blindThatWere(int s) {
            int were = 0;
            for (int t = 0; t < MOST_SORTS; t++) {
                were += blindSo[s][t];
            }
            return were;
        }

        int blindCalled(int t) {
            int called = 0;
            for (int s = 0; s < MOST_SORTS; s++) {
                called += blindSo[s][t];
            }
            return called;
        }
    }

    /**
     * The books that fit. Each set of steps that a read control went through bounds the sum of
     * its N; so the N of a step lies in a range that follows from the N of the steps ahead.
     */
    private static final class Books {
        private static final int GREATEST_N = 9;
        private static final int GREATEST_SUM = STEPS * GREATEST_N;
        private static final int LAST = STEPS - 1;

        private final int[] low = new int[STEP_SETS];
        private final int[] high = new int[STEP_SETS];
        private final int[] sums = new int[STEP_SETS];
        private int boundSteps;
        int fits;
        int leastSum;
        int greatestSum;

        /** How many fit, and the least and the greatest sum of the N of the asked steps. */
        void search(Quern quern, Finds finds, int s, int e, int asked) {
            fits = 0;
            leastSum = GREATEST_SUM + 1;
            greatestSum = -1;
            boundSums(quern, finds, s, e);
            if (low[0] > 0) {
                return;
            }
            int lastA = greatestOf(0);
            for (int a = leastOf(0); a <= lastA; a++) {
                addStep(0, a);
                int lastB = greatestOf(1);
                for (int b = leastOf(1); b <= lastB; b++) {
                    addStep(1, b);
                    int lastC = greatestOf(2);
                    for (int c = leastOf(2); c <= lastC; c++) {
                        addStep(2, c);
                        noteRange(leastOf(LAST), greatestOf(LAST), asked);
                    }
                }
            }
            noteFreeSteps(asked);
        }

        private void boundSums(Quern quern, Finds finds, int s, int e) {
            Arrays.fill(low, 0);
            Arrays.fill(high, GREATEST_SUM);
            boundSteps = 0;
            for (int f = 0; f < quern.patches; f++) {
                if (quern.kind[f] == CONTROL && finds.isRead(f)) {
                    boundSum(quern.steps[f], quern.area[f], finds.counts[f][s], e);
                }
            }
        }

        private void boundSum(int set, int area, int counted, int e) {
            int least = 0;
            while (least <= GREATEST_SUM && least * area < counted - e) {
                least++;
            }
            int greatest = GREATEST_SUM;
            while (greatest >= 0 && greatest * area > counted + e) {
                greatest--;
            }
            low[set] = Math.max(low[set], least);
            high[set] = Math.min(high[set], greatest);
            if (least > 0 || greatest < GREATEST_N * Integer.bitCount(set)) {
                boundSteps |= set;
            }
        }

        private boolean isFree(int step) {
            return (boundSteps >> step & 1) == 0;
        }

        private int leastOf(int step) {
            int bit = 1 << step;
            int least = 0;
            for (int ahead = 0; ahead < bit; ahead++) {
                least = Math.max(least, low[ahead | bit] - sums[ahead]);
            }
            return least;
        }

        /** 0 of a free step: its other N are all noted at the end, so that they are not walked. */
        private int greatestOf(int step) {
            if (isFree(step)) {
                return 0;
            }
            int bit = 1 << step;
            int greatest = GREATEST_N;
            for (int ahead = 0; ahead < bit; ahead++) {
                greatest = Math.min(greatest, high[ahead | bit] - sums[ahead]);
            }
            return greatest;
        }

        private void addStep(int step, int n) {
            int bit = 1 << step;
            for (int ahead = 0; ahead < bit; ahead++) {
                sums[ahead | bit] = sums[ahead] + n;
            }
        }

        private void noteRange(int least, int greatest, int asked) {
            if (least > greatest) {
                return;
            }
            fits += greatest - least + 1;
            int bit = 1 << LAST;
            boolean withLast = (asked & bit) != 0;
            int rest = sums[asked & ~bit];
            leastSum = Math.min(leastSum, withLast ? rest + least : rest);
            greatestSum = Math.max(greatestSum, withLast ? rest + greatest : rest);
        }

        private void noteFreeSteps(int asked) {
            for (int step = 0; step < STEPS; step++) {
                if (isFree(step)) {
                    fits *= GREATEST_N + 1;
                    greatestSum += (asked >> step & 1) * GREATEST_N;
                }
            }
        }
    }
}
