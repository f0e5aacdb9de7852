/**
 * Promises 12 to 20: the document's sentences that name an edge (just enough, none is enough, alike, full, none), in its
 * order, each with a test of its own; what numbers a call takes is in BoundsTest, what it refuses first in RefusalsTest.
 */
public final class WordEdgesTest {
    private static final int NONE = Scene.NONE, OUTSIDE = Scene.OUTSIDE, FULL = Scene.FULL;

    public static void main(String[] args) {
        scoldJustEnough();
        scoldNoLess();
        scoldThreeAtMost();
        scoldLeastOfBrambles();
        scoldOfAll();
        scoldByDay();
        tenReadings();
        readingsTakenBack();
        saidWithoutReadings();
        saidAtTheEnds();
        saidAboutTheDay();
        saidByAllReadings();
        quarrelOfOneDay();
        quarrelOfSeveralAlike();
        quarrelByOtherSilence();
        quarrelAsChosen();
        quarrelOnTheLastDay();
        peaceMoreBetterOff();
        peaceOfOuterGardens();
        peaceByAnotherWord();
        roundHigherThanC();
        roundBegunFeet();
        roundAsFar();
        finesAboveC();
        finesOddCoins();
        finesByDawn();
        meanInLeastTerms();
        Due.end();
    }

    // Terms 3: "at least so many feet high at DAWN 30"
    private static void scoldJustEnough() {
        WordHedges x = Due.planted("g0h30");
        Due.is("36 inches are 3 feet", x.scold(0, 3, 0, 0), 10);
        x.say(0, 1, 5, -1);
        Due.is("33 inches are not", x.scold(0, 3, 0, 0), 11);
        Due.is("33 inches are 2 feet", x.scold(0, 2, 0, 0), 10);
        Due.is("6 feet by 33 and 36: not quite", x.scold(0, 6, 0, 0), NONE);
        Due.is("6 feet by 36 and 36", x.scold(0, 6, 0, 1), 13);
        x.say(0, 1, 6, 1);
        Due.is("45 and 36 are 81", x.scold(0, 6, 0, 0), 13);
        Due.is("45 and 24 are 69", x.scold(0, 5, 0, 0), 12);
        WordHedges y = Due.planted("g0h90");
        for (int day = 0; day < 3; day++) y.say(0, 1, day, 3);
        Due.is("20 feet, by 2", y.scold(3, 20, 0, 0), 12);
        Due.is("19 feet, by 1", y.scold(3, 19, 0, 0), 11);
        y.say(0, 1, 4, -1);
        Due.is("20 feet, less by praise later", y.scold(3, 20, 0, 0), NONE);
        Due.is("0 feet, by none", y.scold(3, 0, 0, 0), 10);
    }

    // Terms 3: "the least word that is no less than that"
    private static void scoldNoLess() {
        for (int word = -3; word <= 3; word++) {
            WordHedges x = Due.planted("g0h50");
            x.say(0, 1, 9, word);
            Due.is("what is said is enough", x.scold(9, 0, 0, 0), word + 10);
            Due.is("no more", x.scold(9, 0, -1, 0), 0);
            Due.is("5 feet", x.scold(9, 5, 0, 0), Math.max(0, word) + 10);
            Due.is("so much more", x.scold(9, 5, -1, 0), Math.max(0, -word));
            Due.is("words stay", x.say(0, 1, 9, word), word + 10);
        }
    }

    // Terms 3: "(3 at most)", "NONE: of some FLANK none is enough"; 12: "NONE: none is enough for that FLANK"
    private static void scoldThreeAtMost() {
        for (int word = -3; word <= 3; word++) {
            WordHedges x = Due.planted("g0h00y00");
            x.say(0, 1, 0, word);
            Due.is("3 feet by 3", x.scold(0, 3, 0, 0), 13);
            Due.is("4 feet", x.scold(0, 4, 0, 0), NONE);
            Due.is("the other flank", x.scold(0, 3, 0, 1), 13);
            Due.is("a yew, 1 foot", x.scold(0, 1, 1, 0), 12);
            Due.is("a yew, 2 feet", x.scold(0, 2, 1, 1), NONE);
            Due.is("of some flank none", x.scold(0, 2, -1, 0), NONE);
            int more = Math.max(1, word) - word + 1 + 2 + 2;
            Due.is("of all flanks one", x.scold(0, 1, -1, 1), more);
        }
    }

    // Terms 3, of a BRAMBLE: praise is less than silence, and does better
    private static void scoldLeastOfBrambles() {
        int[] due = {7, 8, 9, 11, 11, 12, 13};
        for (int word = -3; word <= 3; word++) {
            WordHedges x = Due.planted("g0b90");
            for (int day = 0; day < 29; day++) x.say(0, 1, day, -1);
            x.say(0, 1, 29, word);
            Due.is("as high as it was", x.scold(29, 9, 0, 0), due[word + 3]);
            Due.is("half a foot less will do", x.scold(29, 8, 0, 0), word + 10);
            Due.is("a foot more", x.scold(29, 10, 0, 0), Math.max(2, word) + 10);
            Due.is("two feet more", x.scold(29, 11, 0, 0), NONE);
        }
    }

    // Terms 3: "how much more that is, of all FLANKS together", of the last FLANK, too
    private static void scoldOfAll() {
        WordHedges x = Due.planted("g0h00h00h00h00h00h00");
        Due.is("0 feet", x.scold(0, 0, -1, 0), 0);
        Due.is("12 flanks by 1", x.scold(0, 1, -1, 0), 12);
        Due.is("12 flanks by 3", x.scold(0, 3, -1, 1), 36);
        Due.is("more than that", x.scold(0, 4, -1, 0), NONE);
        for (int h = 0; h < 6; h++) x.say(h, 1, 0, -3);
        for (int h = 1; h < 7; h++) x.say(h, 0, 0, -3);
        Due.is("from praise on", x.scold(0, 3, -1, 0), 72);
        x.say(6, 0, 1, -1);
        Due.is("the last flank, by 33 inches", x.scold(0, 3, -1, 0), NONE);
        x.say(6, 0, 1, 0);
        x.say(0, 1, 1, -1);
        Due.is("the first flank, by 33 inches", x.scold(0, 3, -1, 0), NONE);
        Due.is("2 feet: the first one by 3, the others by 2", x.scold(0, 2, -1, 0), 61);
    }

    // Terms 3: "on a told DAY": the first, the last; clips and ends later count
    private static void scoldByDay() {
        WordHedges x = Due.planted("g0h00");
        Due.is("on the last day", x.scold(29, 3, 0, 0), 13);
        Due.is("on the first day", x.scold(0, 3, 0, 0), 13);
        x.clip(0, 15, 2);
        Due.is("clipped later", x.scold(15, 3, 0, 0), NONE);
        Due.is("clipped later, to enough", x.scold(15, 2, 0, 0), 12);
        Due.is("clipped ahead of it", x.scold(16, 3, 0, 0), 13);
        x.say(0, 1, 20, -3);
        Due.is("what is above 2 feet is lost, then praise", x.scold(0, 1, 0, 0), 12);
        Due.is("never enough", x.scold(0, 2, 0, 0), NONE);
    }

    // Terms 3: READINGS: "10 at most, numbered by how many there are"; 13: FULL
    private static void tenReadings() {
        WordHedges x = Due.planted("g0h00");
        for (int k = 0; k < 10; k++) {
            Due.is("how many", x.many(2), k);
            Due.is("numbered", x.reading(0, k % 2, 30 - k, 240), k);
        }
        Due.is("full", x.reading(0, 0, 0, 0), FULL);
        Due.is("full", x.many(2), 10);
        Due.is("full still", x.reading(0, 1, 30, 240), FULL);
        Due.is("back", x.back(10), 0);
        Due.is("empty", x.reading(0, 0, 0, 0), 0);
    }

    // 14: "The last k READINGS (0 .. as many as there are) are taken back: how many are left"
    private static void readingsTakenBack() {
        for (int count = 0; count <= 10; count++) {
            for (int k = -1; k <= count + 1; k++) {
                WordHedges x = Due.planted("g0h00");
                for (int n = 0; n < count; n++) x.reading(0, 0, 0, 0);
                boolean within = k >= 0 && k <= count;
                Due.is("back " + k + " of " + count, x.back(k), within ? count - k : OUTSIDE);
                Due.is("left of " + count, x.many(2), within ? count - k : count);
            }
        }
        WordHedges x = Due.planted("g0h00");
        x.reading(0, 0, 1, 12);
        x.reading(0, 0, 1, 24);
        Due.is("both at once", x.said(0, 1, 0), 0);
        x.back(1);
        Due.is("the last one is taken back", x.said(0, 1, 0), 16);
        x.back(1);
        Due.is("none is left", x.said(0, 1, 0), 127);
    }

    // Terms 3: "as a set (bit 3 and what was said)"; without READINGS all of them
    private static void saidWithoutReadings() {
        WordHedges x = Due.planted("g0h00b90");
        for (int day = 0; day < 30; day += 29) {
            Due.is("any", x.said(0, 1, day), 127);
            Due.is("any", x.said(1, 0, day), 127);
            Due.is("any", x.said(1, 1, day), 127);
            Due.is("any", x.said(2, 0, day), 127);
        }
        for (int word = -3; word <= 3; word++) {
            WordHedges y = Due.planted("g0h50");
            y.reading(0, 0, 1, word > 0 ? 60 + 12 * word : 60 + 3 * word);
            Due.is("just " + word, y.said(0, 1, 0), 1 << (word + 3));
        }
    }

    // Terms 3: words that the ends (0, 240 inches) make alike
    private static void saidAtTheEnds() {
        WordHedges x = Due.planted("g0h00b00");
        x.reading(0, 0, 1, 0);
        Due.is("0 inches by praise or none", x.said(0, 1, 0), 1 + 2 + 4 + 8);
        x.back(1);
        x.reading(1, 0, 1, 0);
        Due.is("of a bramble, too", x.said(1, 1, 0), 1 + 2 + 4 + 8);
        WordHedges y = Due.planted("g0h90");
        for (int day = 0; day < 4; day++) y.say(0, 1, day, 3);
        y.reading(0, 0, 5, 240);
        Due.is("240 inches by none or harsh ones", y.said(0, 1, 4), 8 + 16 + 32 + 64);
        Due.is("240 inches by 2, 3", y.said(0, 1, 3), 32 + 64);
        y.back(1);
        y.reading(0, 0, 5, 239);
        Due.is("never 239", y.said(0, 1, 4), 0);
        WordHedges b = Due.planted("g0b90");
        b.reading(0, 0, 1, 108);
        Due.is("a bramble by any praise", b.said(0, 1, 0), 1 + 2 + 4);
        b.back(1);
        b.reading(0, 0, 1, 102);
        Due.is("a bramble by silence", b.said(0, 1, 0), 8);
    }

    // Terms 3: a READING at a DAWN is not of what is said on that DAY or later
    private static void saidAboutTheDay() {
        for (int dawn = 0; dawn <= 30; dawn++) {
            WordHedges x = Due.planted("g0h50");
            x.reading(0, 0, dawn, 60);
            for (int day = 0; day < 30; day++) Due.is("day " + day + " by dawn " + dawn, x.said(0, 1, day), day < dawn ? 8 : 127);
        }
        WordHedges x = Due.planted("g0h50");
        x.reading(0, 0, 0, 59);
        Due.is("never so at first", x.said(0, 1, 0), 0);
        Due.is("never so at first", x.said(0, 1, 29), 0);
    }

    // Terms 3: "by which all READINGS are so", those of other FLANKS, too
    private static void saidByAllReadings() {
        WordHedges x = Due.planted("g0h50h50");
        for (int h = 0; h < 2; h++) {
            for (int side = 0; side < 2; side++) x.reading(h, side, 30, 60);
        }
        Due.is("all are so", x.said(0, 1, 0), 8);
        Due.is("all are so", x.said(2, 0, 29), 8);
        x.say(2, 0, 10, 1);
        Due.is("the last flank is not", x.said(0, 1, 0), 0);
        Due.is("but by this one", x.said(2, 0, 10), 8);
        Due.is("four less make up for one", x.said(2, 0, 11), 0);
        x.reading(1, 1, 30, 63);
        Due.is("two that can't both be so", x.said(2, 0, 10), 0);
    }

    // Terms 4: "on DAYS from one on, to another one", perhaps the same
    private static void quarrelOfOneDay() {
        WordHedges x = Due.planted("g0h69h60");
        for (int day = 0; day < 30; day++) {
            Due.is("for light on day " + day, x.quarrel(0, day, day, 1), 9);
            Due.is("content on day " + day, x.quarrel(0, day, day, 0), 10);
            Due.is("the other hedge", x.quarrel(1, day, day, 0), 9);
        }
        Due.is("to the last day: light is had", x.quarrel(0, 0, 29, 1), 10);
        WordHedges late = Due.planted("g0h69h50");
        late.say(1, 1, 28, 1);
        late.say(2, 0, 28, 1);
        for (int first = 0; first <= 28; first++) Due.is("for light at last, from day " + first, late.quarrel(0, first, 28, 1), 9);
        Due.is("not yet", late.quarrel(0, 0, 27, 1), 10);
        Due.is("no more", late.quarrel(0, 0, 29, 1), 10);
        Due.is("the last two days", x.quarrel(0, 28, 29, 1), 10);
        WordHedges y = Due.planted("g0h20");
        y.say(0, 1, 28, 1);
        Due.is("against goats on the last day", y.quarrel(0, 29, 29, 1), 11);
        Due.is("not in time", y.quarrel(0, 27, 27, 1), 10);
    }

    // Terms 4: "of several 0, then -1"
    private static void quarrelOfSeveralAlike() {
        WordHedges x = Due.planted("g0h00");
        Due.is("all alike: 0", x.quarrel(0, 0, 0, 0), 10);
        Due.is("all alike: 0", x.quarrel(0, 0, 0, 1), 10);
        WordHedges y = Due.planted("g0h30");
        Due.is("0 and 1 keep goats off: 0", y.quarrel(0, 0, 0, 1), 10);
        WordHedges b = Due.planted("g0b30");
        b.say(0, 1, 0, 1);
        b.say(1, 0, 0, -1);
        Due.is("-1 and 1 keep goats off: -1", b.quarrel(0, 1, 1, 1), 9);
        WordHedges z = Due.planted("g0h69h60");
        z.say(1, 0, 0, -1);
        Due.is("-1 and 0 give light: 0", z.quarrel(0, 1, 1, 1), 10);
    }

    // Terms 4: "if the other one says 0"
    private static void quarrelByOtherSilence() {
        WordHedges x = Due.planted("g0h20");
        x.say(0, 1, 0, 1);
        Due.is("the left one's word of that day does not count", x.quarrel(0, 0, 0, 1), 10);
        Due.is("that of the day ahead does", x.quarrel(0, 1, 1, 1), 11);
        WordHedges b = Due.planted("g0b40");
        b.say(0, 1, 2, -1);
        Due.is("36 and 36 inches, the left one's praise does not count", b.quarrel(0, 2, 2, 1), 10);
        b.say(0, 1, 1, -1);
        Due.is("42 and 36 inches: 36 by the left one's silence", b.quarrel(0, 2, 2, 1), 9);
        b.say(1, 0, 1, -1);
        Due.is("42 and 42 inches: both by silence", b.quarrel(0, 2, 2, 1), 10);
        WordHedges y = Due.planted("g0h69h60");
        y.say(2, 0, 0, -1);
        y.say(2, 0, 1, 3);
        Due.is("72 and 69 inches: 69 by the right one's silence", y.quarrel(1, 1, 1, 0), 10);
        Due.is("72 and 72 inches", y.quarrel(1, 0, 0, 0), 9);
    }

    // Terms 4: "all else as told, and as chosen till then"
    private static void quarrelAsChosen() {
        WordHedges x = Due.planted("g0h69h60");
        x.say(1, 0, 0, -1);
        x.say(0, 1, 0, -1);
        Due.is("as told till then", x.quarrel(0, 1, 1, 1), 10);
        x.say(1, 0, 1, 3);
        Due.is("that day's word is chosen anew", x.quarrel(0, 1, 1, 1), 10);
        x.say(1, 1, 1, 1);
        x.say(2, 0, 1, 1);
        Due.is("the hedge on the other side has grown", x.quarrel(0, 1, 1, 1), 10);
        x.say(0, 1, 0, 0);
        x.say(1, 0, 0, 0);
        Due.is("by 6 and 7 feet no word is enough", x.quarrel(0, 1, 1, 1), 10);
        x.clip(1, 1, 6);
        Due.is("clipped, it is", x.quarrel(0, 1, 1, 1), 9);
        x.clip(0, 1, 5);
        Due.is("both clipped, none is needed", x.quarrel(0, 1, 1, 1), 10);
    }

    // 16: "what the GARDEN at its left (side 0), its right (1) says on the last one, and 10"
    private static void quarrelOnTheLastDay() {
        WordHedges x = Due.planted("g9h90");
        x.clip(0, 0, 12);
        for (int day = 0; day < 2; day++) {
            x.say(0, 1, day, 3);
            x.say(1, 0, day, 3);
        }
        Due.is("12 feet: 8 is less than 9", x.off(0, 1), 0);
        Due.is("15 feet: no word of a day is enough", x.quarrel(0, 2, 2, 0), 10);
        Due.is("on any day", x.quarrel(0, 2, 29, 0), 10);
        x.clip(0, 1, 12);
        Due.is("12 feet: by praise", x.quarrel(0, 2, 2, 0), 9);
        Due.is("a day later it is so", x.quarrel(0, 2, 3, 0), 10);
        Due.is("the right one is content", x.quarrel(0, 2, 2, 1), 10);
    }

    // Terms 4: "GARDENS that were more BETTER OFF": not those that are as well off
    private static void peaceMoreBetterOff() {
        WordHedges x = Due.planted("g0h30");
        Due.is("all is had", x.peace(0), 0);
        x.say(1, 0, 0, -1);
        Due.is("33 inches: by 0 or 1", x.peace(0), 2);
        x.say(0, 1, 0, -1);
        Due.is("both: one alone can't help it", x.peace(0), 0);
        x.say(1, 0, 0, -3);
        x.say(0, 1, 0, 0);
        Due.is("by another one of three", x.peace(0), 2);
        WordHedges y = Due.planted("g0h69h69");
        Due.is("two want light, one has it", y.peace(29), 2);
        WordHedges z = Due.planted("g0h69h70");
        z.clip(1, 29, 6);
        Due.is("at the dawn behind it: 6 and 6 feet", z.peace(29), 2);
        Due.is("at the dawn ahead of that: 6 and 7 feet", z.peace(28), 0);
    }

    // Terms 4: "to one of their HEDGES": the first garden has one, the last one, too
    private static void peaceOfOuterGardens() {
        WordHedges x = Due.planted("g9h90");
        x.say(0, 1, 0, 3);
        x.say(1, 0, 0, 3);
        Due.is("the first one wants light", x.peace(0), 1);
        WordHedges y = Due.planted("g0h99");
        y.say(0, 1, 29, 3);
        y.say(1, 0, 29, 3);
        Due.is("the last one wants light", y.peace(29), 2);
        WordHedges z = Due.planted("g0h20h00h00h00h00h00");
        z.say(0, 1, 0, 1);
        Due.is("the next one alone can keep goats off", z.peace(0), 2);
        WordHedges e = Due.planted("g0h00h00h00h00h00h20");
        e.say(5, 1, 0, 1);
        Due.is("the seventh can, too", e.peace(0), 64);
        e.say(6, 0, 0, 1);
        Due.is("it has", e.peace(0), 0);
    }

    // Terms 4: "another one of -1, 0, 1", whatever was said; "(all else as told)"
    private static void peaceByAnotherWord() {
        for (int word = -3; word <= 3; word++) {
            WordHedges x = Due.planted("g0h20");
            x.say(0, 1, 0, 3);
            x.say(1, 0, 0, word);
            Due.is("by 1, in place of " + word, x.peace(0), word < 1 ? 2 : 0);
            WordHedges y = Due.planted("g0h69h60");
            y.say(1, 0, 0, word);
            Due.is("by -1, in place of " + word, y.peace(0), word < 0 ? 0 : 2);
            WordHedges b = Due.planted("g0b30");
            b.say(0, 1, 0, -1);
            b.say(1, 0, 0, word);
            Due.is("a bramble by -1 or 1, in place of " + word, b.peace(0), word == 0 ? 2 : 0);
        }
        WordHedges x = Due.planted("g0h10");
        x.say(0, 1, 0, 3);
        Due.is("by 2 it would: that is none of them", x.peace(0), 0);
    }

    // Terms 5: "HEDGES of which a FLANK is higher than c feet"
    private static void roundHigherThanC() {
        WordHedges x = Due.planted("g0h00h50");
        Due.is("just 5 feet", x.round(0, 5), 0);
        Due.is("a foot on each flank, a garden on", x.round(0, 4), 3);
        x.say(1, 1, 0, 1);
        Due.is("one flank of 6", x.round(1, 5), 2);
        x.say(2, 0, 0, -3);
        Due.is("the lower one takes nothing off", x.round(1, 5), 2);
        Due.is("20 feet", x.round(30, 20), 0);
        Due.is("no feet", x.round(0, 0), 11);
    }

    // Terms 5: "a minute for each foot that is above (of both FLANKS together, in inches, by 12, begun ones whole)"
    private static void roundBegunFeet() {
        int[] byThree = {2, 1, 1, 1};
        for (int praise = 0; praise <= 3; praise++) {
            WordHedges x = Due.planted("g0h10");
            x.say(0, 1, 0, -praise);
            Due.is("12 and " + (12 - 3 * praise) + " inches", x.round(1, 0), 2);
            x.say(1, 0, 0, -3);
            Due.is("3 and " + (12 - 3 * praise) + " inches", x.round(1, 0), byThree[praise]);
        }
        WordHedges x = Due.planted("g0h10");
        x.say(0, 1, 0, -1);
        x.say(1, 0, 0, -2);
        Due.is("9 and 6 inches", x.round(1, 0), 2);
        x.say(0, 1, 1, -3);
        x.say(1, 0, 1, -2);
        Due.is("none", x.round(2, 0), 0);
    }

    // Terms 5: "from GARDEN 0 he goes by GARDENS beside one another, a minute each ... from either GARDEN ... (he need not come back)"
    private static void roundAsFar() {
        for (int last = 0; last < 6; last++) {
            StringBuilder text = new StringBuilder("g0");
            for (int h = 0; h < 6; h++) text.append(h == last ? "h10" : "h00");
            Due.is("hedge " + last, Due.planted(text.toString()).round(0, 0), last + 2);
        }
        Due.is("none", Due.planted("g0h00h00h00h00h00h00").round(0, 0), 0);
        Due.is("all", Due.planted("g0h10h10h10h10h10h10").round(0, 0), 5 + 12);
        Due.is("the first and the fourth", Due.planted("g0h10h00h00h10h00h00").round(0, 0), 3 + 4);
    }

    // Terms 5: "for each HEDGE whose HEIGHT is above c feet ... a coin for each whole foot of HEIGHT"
    private static void finesAboveC() {
        WordHedges x = Due.planted("g0h40");
        Due.is("just 4 feet", x.fines(-1, 4), 0);
        Due.is("above 3 feet", x.fines(-1, 3), 120);
        Due.is("above 0 feet", x.fines(-1, 0), 120);
        x.say(0, 1, 0, -1);
        Due.is("45 inches are above 3 feet, 3 coins", x.fines(-1, 3), 90);
        x.say(1, 0, 0, 3);
        Due.is("the lesser flank counts", x.fines(-1, 4), 0);
        WordHedges y = Due.planted("g0h10");
        y.say(0, 1, 0, -1);
        Due.is("9 inches: no whole foot", y.fines(-1, 0), 0);
        WordHedges z = Due.planted("g0h00");
        Due.is("0 inches are not above 0 feet", z.fines(-1, 0), 0);
        WordHedges e = Due.planted("g0h90");
        for (int day = 0; day < 4; day++) {
            e.say(0, 1, day, 3);
            e.say(1, 0, day, 3);
        }
        Due.is("20 feet are not above 20", e.fines(-1, 20), 0);
        Due.is("20 feet from dawn 4 on", e.fines(-1, 19), 27 * 20);
    }

    // Terms 5: "the half (cut) of each GARDEN beside it; an odd coin pays the one whose FLANK is higher, the left one, if both are alike"
    private static void finesOddCoins() {
        WordHedges x = Due.planted("g0h30h20");
        x.clip(0, 0, 3);
        Due.is("alike: the left one", x.fines(0, 2), 60);
        Due.is("alike: not the right one", x.fines(1, 2), 30);
        Due.is("even: both", x.fines(2, 1), 30);
        Due.is("two hedges", x.fines(1, 1), 60);
        for (int day = 0; day < 30; day++) x.say(1, 0, day, 1);
        x.clip(0, 0, Scene.NONE);
        Due.is("the right flank is higher", x.fines(0, 2), 30);
        Due.is("the right flank is higher", x.fines(1, 2), 60);
        x.say(0, 1, 0, 3);
        x.clip(0, 1, 5);
        Due.is("in all", x.fines(-1, 2), x.fines(0, 2) + x.fines(1, 2) + x.fines(2, 2));
        WordHedges y = Due.planted("g0h10");
        y.say(0, 1, 29, 1);
        Due.is("a single coin: the left one", y.fines(0, 0), 30);
        y.say(1, 0, 28, 1);
        Due.is("at one dawn the right one", y.fines(0, 0), 28 + 1);
        Due.is("at one dawn the right one", y.fines(1, 0), 1 + 1);
    }

    // Terms 5: "at each DAWN 1 .. 30"
    private static void finesByDawn() {
        WordHedges x = Due.planted("g0h20");
        x.clip(0, 0, 0);
        Due.is("not at dawn 0", x.fines(-1, 0), 0);
        x.say(0, 1, 29, 2);
        x.say(1, 0, 29, 2);
        Due.is("at dawn 30", x.fines(-1, 0), 2);
        x.clip(0, 0, Scene.NONE);
        x.clip(0, 1, 0);
        Due.is("at dawn 1 and dawn 30", x.fines(-1, 0), 4);
    }

    // 20: "as a share of how many there are"; Terms: "upper and lower number (above 0) in least terms"
    private static void meanInLeastTerms() {
        String[] texts = {"g0h00", "g0h90", "g0h00h00h00h00h00h00", "g0h10h00", "g0h10h00h00h00h00", "g0h10h10h10h10h10h00", "g0h90h90h90h90h90h90"};
        int[][] due = {{0, 1}, {108, 1}, {0, 1}, {6, 1}, {12, 5}, {10, 1}, {108, 1}};
        for (int k = 0; k < texts.length; k++) {
            WordHedges x = Due.planted(texts[k]);
            Due.is("upper of " + texts[k], x.mean(0, 0), due[k][0]);
            Due.is("lower of " + texts[k], x.mean(0, 1), due[k][1]);
        }
        WordHedges x = Due.planted("g0h10h00h00h00h00h00");
        x.say(0, 1, 0, -1);
        x.say(0, 1, 29, -1);
        Due.is("9 by 6", x.mean(1, 0), 3);
        Due.is("9 by 6", x.mean(1, 1), 2);
        Due.is("6 by 6", x.mean(30, 0), 1);
        Due.is("6 by 6", x.mean(30, 1), 1);
        x.say(0, 1, 29, -2);
        Due.is("3 by 6", x.mean(30, 0), 1);
        Due.is("3 by 6", x.mean(30, 1), 2);
    }
}
