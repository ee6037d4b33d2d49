/**
 * Part 2 of the Terms: each bound in what a DEVICE tells, in a TICK, in how one is JUDGED, in a SUPPLY
 * going off and in sleep, the last that is taken and the first that is not. Each method quotes the
 * sentence that it holds.
 */
public final class RuleBoundsTest {
    private static final int NONE = HubTree.NONE;
    private static final int HIDDEN = HubTree.HIDDEN;

    private RuleBoundsTest() {}

    public static void main(String[] args) {
        devicesUpToSeven();
        bytesOfAll();
        checksOfErrors();
        debounces();
        turnsRise();
        resets();
        firstBites();
        secondBites();
        triesUpToFive();
        nobodyElseStands();
        whoseHubIsReady();
        depths();
        addresses();
        powerOfTheRoot();
        powerOfHubs();
        leftOfAHub();
        helpAtItsEnd();
        busAtItsEnd();
        noBytesCostNothing();
        speeds();
        helpers();
        firstThatHolds();
        supplyOffItself();
        supplyOffBeneath();
        supplyOfOthers();
        fallingAsleep();
        wakingPower();
        wakingTime();
        supplyOnRefusesNobody();
        noLongerConfigured();
        hubSevenAboveZero();
        eightAtOnce();
        noNinth();
        Checks.finish();
    }

    private static int what(HubTree x, int d) {
        return Checks.device(x, d, 0);
    }

    private static int why(HubTree x, int d) {
        return Checks.device(x, d, 8);
    }

    /** Plugs one and lets it come, where DEBOUNCE and RESET are 1: WHY it was REFUSED, 0 if it runs. */
    private static int comes(HubTree x, int d, int hub, int port) {
        Checks.holds("PLUGGED", x.plug(d, hub, port) > 0);
        x.tick(4);
        Checks.holds("CONFIGURED or REFUSED", what(x, d) == 6 && why(x, d) == 0 || what(x, d) == 7 && why(x, d) > 0);
        return why(x, d);
    }

    /** "DEVICES 0 .. 7; the ROOT is HUB 8, always CONFIGURED, runs at 2." */
    private static void devicesUpToSeven() {
        HubTree x = Checks.withTree("sd1r1;d;d;d;d;d;d;d;dn2s2");
        Checks.due("the last of eight is told", 2, x.told(7, 0));
        Checks.due("no ninth", NONE, x.told(8, 0));
        Checks.due("DEVICE 7 comes", 0, comes(x, 7, 8, 3));
        Checks.due("at the ROOT it runs at 2", 2, Checks.device(x, 7, 6));
        Checks.due("bit 7", 128, x.all(4));
        Checks.due("HUB 7", 0, comes(x, 0, 7, 1));
        Checks.due("in its PORT", 0, x.port(7, 1));
        HubTree y = Checks.withTree("d");
        Checks.due("one alone: 0", 0, y.told(0, 0));
        Checks.due("one alone: no 1", NONE, y.told(1, 0));
        Checks.due("HUB 8 is there without one", 4, y.hub(8, 5));
    }

    /** "LENGTH (8 and PORTS), 1 (a HUB: 9), SPEED, .. last a CHECK by which all added up are 0 modulo 256." */
    private static void bytesOfAll() {
        for (int ports = 0; ports <= 4; ports++) {
            for (String rest : new String[] {"s0u0o0b0", "s1u1o0b4", "s2u9o1b99"}) {
                HubTree x = Checks.withTree("dn" + ports + rest);
                int[] row = {
                    8 + ports, ports > 0 ? 9 : 1, rest.charAt(1) - '0', rest.charAt(3) - '0', ports,
                    Integer.parseInt(rest.substring(7)), rest.charAt(5) - '0', 10, 11, 12, 13,
                };
                int sum = 0;
                for (int i = 0; i < 7 + ports; i++) {
                    Checks.due("byte " + i + " of " + ports + rest, row[i], x.octet(0, i));
                    sum += row[i];
                }
                Checks.due("CHECK of " + ports + rest, 256 - sum, x.octet(0, 7 + ports));
                Checks.due("no byte behind", NONE, x.octet(0, 8 + ports));
                Checks.due("no byte ahead", NONE, x.octet(0, -1));
            }
        }
    }

    /** "By ERROR 1 LENGTH is told as 3 (CHECK as it was), by 2 CHECK is one more .., by 3 PORTS as 7 (.. right)". */
    private static void checksOfErrors() {
        for (int ports = 0; ports <= 4; ports++) {
            HubTree x = Checks.withTree("dn" + ports);
            int end = 7 + ports;
            int check = x.octet(0, end);
            x.error(0, 1);
            Checks.due("ERROR 1: LENGTH", 3, x.octet(0, 0));
            Checks.due("ERROR 1: CHECK as it was", check, x.octet(0, end));
            Checks.due("ERROR 1: as many bytes", NONE, x.octet(0, end + 1));
            x.error(0, 2);
            Checks.due("ERROR 2: LENGTH", 8 + ports, x.octet(0, 0));
            Checks.due("ERROR 2: CHECK is one more", check + 1, x.octet(0, end));
            x.error(0, 3);
            Checks.due("ERROR 3: PORTS", 7, x.octet(0, 4));
            Checks.due("ERROR 3: LENGTH", 8 + ports, x.octet(0, 0));
            int sum = 0;
            for (int i = 0; i <= end; i++) {
                sum += x.octet(0, i);
            }
            Checks.due("ERROR 3: all added up go round once", 256, sum);
            Checks.due("ERROR 3: as many bytes", NONE, x.octet(0, end + 1));
            x.error(0, 0);
            Checks.due("no ERROR: CHECK", check, x.octet(0, end));
            Checks.due("no ERROR: PORTS", ports, x.octet(0, 4));
        }
    }

    /** "of each that is SETTLING TIMER is one less; at 0 it is WAITING". */
    private static void debounces() {
        for (int debounce = 1; debounce <= 9; debounce++) {
            HubTree x = Checks.withTree("sd" + debounce + ";d");
            x.plug(0, 8, 0);
            for (int left = debounce; left > 0; left--) {
                Checks.due("SETTLING", 1, what(x, 0));
                Checks.due("its TIMER", left, Checks.device(x, 0, 1));
                x.tick(1);
            }
            Checks.due("WAITING no longer than that TICK", 3, what(x, 0));
        }
    }

    /** "TURN is the next number (1, 2 .. of all; numbers rising in one TICK)". */
    private static void turnsRise() {
        HubTree x = Checks.withTree("sd1r9;dn4;d;d;d;d");
        x.plug(3, 8, 0);
        x.tick(1);
        Checks.due("the first TURN was its", 3, x.all(6));
        x.plug(0, 8, 1);
        x.plug(4, 0, 0);
        x.plug(2, 0, 1);
        x.plug(1, 0, 2);
        x.tick(1);
        int[] turns = {2, 3, 4, 0, 5};
        for (int d = 0; d < 5; d++) {
            Checks.due("TURN of " + d, turns[d], Checks.device(x, d, 2));
        }
        x.unplug(2);
        x.plug(2, 0, 1);
        x.tick(1);
        Checks.due("a TURN is given once", 6, Checks.device(x, 2, 2));
    }

    /** "Who is in RESET: TIMER is one less; at 0 it is at its FIRST." */
    private static void resets() {
        for (int reset = 1; reset <= 9; reset++) {
            HubTree x = Checks.withTree("sd1r" + reset + ";d");
            x.plug(0, 8, 0);
            x.tick(1);
            for (int left = reset; left > 0; left--) {
                Checks.due("in RESET", 3, what(x, 0));
                Checks.due("its TIMER", left, Checks.device(x, 0, 1));
                x.tick(1);
            }
            Checks.due("at its FIRST, not read yet", 4, what(x, 0));
            Checks.due("no TIMER", 0, Checks.device(x, 0, 1));
            x.tick(1);
            Checks.due("at its SECOND, not read yet", 5, what(x, 0));
            x.tick(1);
            Checks.due("CONFIGURED", 6, what(x, 0));
        }
    }

    /** "LENGTH of its BYTES is read: is it 8 .. 12, it is at its SECOND, else it FAILS." */
    private static void firstBites() {
        for (int ports = 0; ports <= 4; ports++) {
            for (int error = 0; error <= 3; error++) {
                HubTree x = Checks.withTree("sd1r1y1;dn" + ports + "e" + error);
                x.plug(0, 8, 0);
                x.tick(3);
                Checks.due("LENGTH " + x.octet(0, 0), error == 1 ? 7 : 5, what(x, 0));
                Checks.due("FAILS", error == 1 ? 1 : 0, Checks.device(x, 0, 3));
            }
        }
    }

    /** "is their sum not 0 modulo 256, or LENGTH not 8 and PORTS as told, it FAILS; else it is JUDGED". */
    private static void secondBites() {
        for (int ports = 0; ports <= 4; ports++) {
            for (int error = 0; error <= 3; error++) {
                HubTree x = Checks.withTree("sd1r1y1;dn" + ports);
                x.plug(0, 8, 0);
                x.tick(3);
                x.error(0, error);
                x.tick(1);
                Checks.due("ERROR " + error + " at its SECOND", error == 0 ? 6 : 7, what(x, 0));
                Checks.due("WHY", error == 0 ? 0 : 1, why(x, 0));
            }
        }
        HubTree x = Checks.withTree("sd1r1y1;de1;de2");
        x.plug(0, 8, 0);
        x.plug(1, 8, 1);
        x.tick(2);
        x.error(0, 0);
        x.tick(1);
        Checks.due("mended ahead of its FIRST", 5, what(x, 0));
        x.tick(3);
        x.error(1, 0);
        x.tick(1);
        Checks.due("mended ahead of its SECOND", 3, x.all(4));
    }

    /** "FAILS is one more; are these TRIES, it is REFUSED (1), else WAITING with the next TURN." */
    private static void triesUpToFive() {
        for (int tries = 1; tries <= 5; tries++) {
            HubTree x = Checks.withTree("sd1r1y" + tries + ";de2;d");
            x.plug(0, 8, 0);
            x.tick(1);
            for (int fails = 0; fails < tries; fails++) {
                Checks.due("FAILS", fails, Checks.device(x, 0, 3));
                Checks.due("in RESET", 3, what(x, 0));
                x.tick(3);
            }
            Checks.due("FAILS are TRIES", tries, Checks.device(x, 0, 3));
            Checks.due("REFUSED", 7, what(x, 0));
            Checks.due("WHY", 1, why(x, 0));
            Checks.due("nothing more comes", 0, x.last());
            Checks.due("TURNS were given, one a TRY", tries + 1, x.again(0));
            Checks.due("FAILS 0", 0, Checks.device(x, 0, 3));
        }
        HubTree y = Checks.withTree("sd1r1y5;de1;d");
        y.plug(0, 8, 0);
        y.tick(2);
        y.plug(1, 8, 1);
        y.tick(1);
        Checks.due("who SETTLED in that TICK has the TURN ahead", 1, y.all(6));
        Checks.due("who FAILED has the next", 3, Checks.device(y, 0, 2));
    }

    /** "Is nobody in RESET, at FIRST, at SECOND, .. that with the least TURN is in RESET". */
    private static void nobodyElseStands() {
        HubTree x = Checks.withTree("sd1r2;d;d;d");
        for (int d = 2; d >= 0; d--) {
            x.plug(d, 8, d);
            x.tick(1);
        }
        int[] stands = {2, 2, 1, 1, 1, 1, 0, 0, 0, 0, NONE};
        for (int t = 0; t < stands.length; t++) {
            Checks.due("who stands at the default address, " + t, stands[t], x.all(6));
            x.tick(1);
        }
        Checks.due("all three", 7, x.all(4));
    }

    /** "of the WAITING ones whose HUB is CONFIGURED and not ASLEEP". */
    private static void whoseHubIsReady() {
        HubTree x = Checks.withTree("sd1r1y1;dn4;d;dn1e1;d;d");
        x.plug(2, 8, 0);
        x.plug(3, 2, 0);
        x.tick(60);
        Checks.due("beneath one REFUSED it waits", 2, what(x, 3));
        Checks.due("nobody stands", NONE, x.all(6));
        Checks.due("nothing changes", 0, x.last());
        x.plug(0, 8, 1);
        x.plug(1, 0, 0);
        x.tick(3);
        Checks.due("beneath one at its SECOND it waits", 2, what(x, 1));
        x.tick(1);
        Checks.due("beneath one CONFIGURED it is in RESET at once", 3, what(x, 1));
        x.tick(3);
        x.sleep(1);
        x.sleep(0);
        x.plug(4, 0, 1);
        x.tick(9);
        Checks.due("beneath one ASLEEP it waits", 2, what(x, 4));
        x.sleep(0);
        x.tick(1);
        Checks.due("awake, it is in RESET", 3, what(x, 4));
    }

    /** "DEPTH above 4: REFUSED (4) (DEPTH: at the ROOT 1, else one more than that of its HUB)". */
    private static void depths() {
        HubTree x = Checks.withTree("sd1r1;dn1o1b0;dn1o1b0;dn1o1b0;dn2o1b0;dn1o1b0;db0;db0;db0");
        for (int d = 0; d < 4; d++) {
            Checks.due("DEPTH " + (d + 1) + " runs", 0, comes(x, d, d == 0 ? 8 : d - 1, 0));
            Checks.due("its DEPTH", d + 1, Checks.device(x, d, 10));
        }
        Checks.due("DEPTH 5", 4, comes(x, 4, 3, 0));
        Checks.due("its DEPTH", 5, Checks.device(x, 4, 10));
        Checks.due("DEPTH 5, no HUB", 4, comes(x, 5, 3, 1));
        Checks.due("DEPTH 6", 6, x.plug(6, 4, 0));
        Checks.due("the greatest", 6, x.all(8));
        x.tick(9);
        Checks.due("it waits beneath one REFUSED", 2, what(x, 6));
        HubTree y = Checks.withTree("dn1;dn1;dn1;dn1;dn1;dn1;dn1;d");
        for (int d = 0; d < 8; d++) {
            Checks.due("plug answers DEPTH", d + 1, y.plug(d, d == 0 ? 8 : d - 1, 0));
        }
        Checks.due("eight deep", 8, y.all(8));
        Checks.due("eight deep: BENEATH the first", 254, y.hub(0, 0));
        Checks.due("eight deep: all leave with it", 8, y.unplug(0));
    }

    /** "no ADDRESS free (1 .. ADDRESSES): (5)"; "ADDRESS is the least free one". */
    private static void addresses() {
        for (int n = 1; n <= 9; n++) {
            HubTree x = Checks.withTree("sd1r1m200n1a" + n + ";dn4o1b0;dn4o1b0;db0;db0;db0;db0;db0;db0");
            int[] hubs = {8, 0, 0, 0, 0, 1, 1, 1};
            int[] ports = {0, 0, 1, 2, 3, 0, 1, 2};
            for (int d = 0; d < 8; d++) {
                boolean beneath = n == 1 && d >= 5;
                x.plug(d, hubs[d], ports[d]);
                x.tick(4);
                int want = d < n ? 6 : beneath ? 2 : 7;
                Checks.due("DEVICE " + d + " of " + n + " ADDRESSES", want, what(x, d));
                Checks.due("WHY", want == 7 ? 5 : 0, why(x, d));
                Checks.due("its ADDRESS", d < n ? d + 1 : 0, Checks.device(x, d, 7));
                Checks.due("ADDRESSES that are free", Math.max(0, n - d - 1), x.all(9));
                Checks.due("at " + (d + 1), d < n ? d : NONE, x.at(d + 1));
            }
        }
        HubTree y = Checks.withTree("sd1r1a3;d;d;d;d");
        comes(y, 0, 8, 0);
        comes(y, 1, 8, 1);
        comes(y, 2, 8, 2);
        Checks.due("full", 5, comes(y, 3, 8, 3));
        y.unplug(1);
        y.again(3);
        y.tick(4);
        Checks.due("the one that was left", 2, Checks.device(y, 3, 7));
        y.unplug(2);
        y.unplug(0);
        Checks.due("two are free", 2, y.all(9));
        comes(y, 1, 8, 0);
        Checks.due("the least", 1, Checks.device(y, 1, 7));
        y.sleep(1);
        comes(y, 0, 8, 1);
        Checks.due("ASLEEP it has its ADDRESS", 3, Checks.device(y, 0, 7));
    }

    /** "TAKES .. is more than its PORT GIVES"; "A PORT GIVES: of the ROOT POWER". */
    private static void powerOfTheRoot() {
        for (int power = 1; power <= 9; power++) {
            for (int units = 0; units <= 9; units++) {
                HubTree x = Checks.withTree("sd1r1p" + power + ";du" + units + ";du" + units);
                Checks.due("the ROOT GIVES", power, x.hub(8, 2));
                Checks.due(units + " of " + power, units > power ? 2 : 0, comes(x, 0, 8, 0));
                Checks.due("the ROOT has any number LEFT", units > power ? 2 : 0, comes(x, 1, 8, 1));
            }
        }
    }

    /** "of a HUB with its SUPPLY on 5; else 1"; "TAKES (UNITS; 0 with its SUPPLY on, or ASLEEP)". */
    private static void powerOfHubs() {
        for (int units = 0; units <= 9; units++) {
            HubTree x = Checks.withTree("sd1r1p9;dn4o1;dn4u0;du" + units + ";du" + units + "o1;du" + units + "o1");
            comes(x, 0, 8, 0);
            comes(x, 1, 8, 1);
            Checks.due("with SUPPLY GIVES", 5, x.hub(0, 2));
            Checks.due("without it GIVES", 1, x.hub(1, 2));
            Checks.due(units + " of 5", units > 5 ? 2 : 0, comes(x, 2, 0, 0));
            x.unplug(2);
            Checks.due(units + " of 1", units > 1 ? 2 : 0, comes(x, 2, 1, 0));
            Checks.due("with its SUPPLY on it TAKES 0", 0, Checks.device(x, 3, 11));
            Checks.due("and runs everywhere", 0, comes(x, 3, 1, 1));
            Checks.due("nothing is taken of LEFT", 9 - (units == 1 ? 1 : 0), x.hub(1, 3));
            x.supply(4);
            Checks.due("off it TAKES its UNITS", units, Checks.device(x, 4, 11));
            Checks.due("and is REFUSED", units > 1 ? 2 : 0, comes(x, 4, 1, 2));
        }
    }

    /** "LEFT of a HUB (..): what its own PORT GIVES less its UNITS less TAKES of all CONFIGURED right at it." */
    private static void leftOfAHub() {
        for (int units = 0; units <= 3; units++) {
            HubTree x = Checks.withTree("sd1r1p3;dn4u" + units + ";d;d;d;d;du0;do1");
            Checks.due("AWAY: not told", HIDDEN, x.hub(0, 3));
            x.plug(0, 8, 0);
            Checks.due("SETTLING: told", 3 - units, x.hub(0, 3));
            x.tick(4);
            int left = 3 - units;
            for (int d = 1; d <= 4; d++) {
                x.plug(d, 0, d - 1);
                x.tick(3);
                Checks.due("not CONFIGURED yet: nothing taken", left, x.hub(0, 3));
                x.tick(1);
                Checks.due("so many of " + (3 - units), left > 0 ? 6 : 7, what(x, d));
                Checks.due("WHY", left > 0 ? 0 : 2, why(x, d));
                left = Math.max(0, left - 1);
                Checks.due("LEFT", left, x.hub(0, 3));
            }
            Checks.due("nothing is LEFT", 0, x.hub(0, 3));
            x.unplug(4);
            Checks.due("0 is no more than 0", 0, comes(x, 5, 0, 3));
            x.unplug(5);
            Checks.due("with a SUPPLY on", 0, comes(x, 6, 0, 3));
        }
        HubTree y = Checks.withTree("sd1r1p1;dn1u1o1");
        Checks.due("with its SUPPLY on, AWAY", HIDDEN, y.hub(0, 3));
        comes(y, 0, 8, 0);
        Checks.due("with its SUPPLY on: any number", HIDDEN, y.hub(0, 3));
        y.supply(0);
        Checks.due("off: what its PORT GIVES less its UNITS", 0, y.hub(0, 3));
        Checks.due("of the ROOT: any number", HIDDEN, y.hub(8, 3));
    }

    /** "HELP .. would be more than told: (3)"; "BYTES times 2, of those that run at 0 times 8". */
    private static void helpAtItsEnd() {
        for (int help = 10; help <= 99; help++) {
            for (int speed = 0; speed <= 1; speed++) {
                int times = speed == 0 ? 8 : 2;
                int most = help / times;
                HubTree x = Checks.withTree("sd1r1m200h" + help + ";ds" + speed + "b" + most);
                Checks.due("HELP " + most * times + " of " + help, 0, comes(x, 0, 8, 0));
                Checks.due("HELP", most * times, x.hub(8, 4));
                HubTree y = Checks.withTree("sd1r1m200h" + help + ";ds" + speed + "b" + (most + 1));
                Checks.due("HELP " + (most + 1) * times + " of " + help, 3, comes(y, 0, 8, 0));
                Checks.due("no HELP", 0, y.hub(8, 4));
            }
        }
        HubTree z = Checks.withTree("sd1r1h30m200;dn4o1s2b0;db10;db5;db1;db15;ds0b3");
        comes(z, 0, 8, 0);
        Checks.due("20 of 30", 0, comes(z, 1, 0, 0));
        Checks.due("30 of 30", 0, comes(z, 2, 0, 1));
        Checks.due("32 of 30", 3, comes(z, 3, 0, 2));
        Checks.due("HELP is of each HUB: 30 of 30 at the ROOT", 0, comes(z, 4, 8, 1));
        Checks.due("HELP of HUB 0", 30, z.hub(0, 4));
        Checks.due("HELP of the ROOT", 30, z.hub(8, 4));
        z.unplug(2);
        Checks.due("20 and 24", 3, comes(z, 5, 0, 1));
    }

    /** "BUS would be more than told: (3)"; "4 besides for each that has a HELPER and BYTES above 0". */
    private static void busAtItsEnd() {
        for (int bus = 20; bus <= 99; bus++) {
            HubTree x = Checks.withTree("sd1r1m" + bus + ";ds2b" + bus);
            Checks.due("BUS " + bus + " of " + bus, 0, comes(x, 0, 8, 0));
            Checks.due("BUS", bus, x.all(7));
            if (bus < 99) {
                HubTree y = Checks.withTree("sd1r1m" + bus + ";ds2b" + (bus + 1));
                Checks.due("one more than " + bus, 3, comes(y, 0, 8, 0));
                Checks.due("no BUS", 0, y.all(7));
            }
        }
        for (int bytes = 15; bytes <= 17; bytes++) {
            HubTree x = Checks.withTree("sd1r1h99m20;ds1b" + bytes);
            Checks.due(bytes + " and 4 of 20", bytes > 16 ? 3 : 0, comes(x, 0, 8, 0));
        }
        HubTree z = Checks.withTree("sd1r1h99m200;ds2b99;ds2b92;ds1b5;ds2b1;ds2b0");
        comes(z, 0, 8, 0);
        comes(z, 1, 8, 1);
        Checks.due("191 and 9 of 200", 0, comes(z, 2, 8, 2));
        Checks.due("BUS is full", 200, z.all(7));
        Checks.due("201 of 200", 3, comes(z, 3, 8, 3));
        z.unplug(3);
        Checks.due("0 more of 200", 0, comes(z, 4, 8, 3));
    }

    /** "and 4 besides for each that has a HELPER and BYTES above 0". */
    private static void noBytesCostNothing() {
        HubTree x = Checks.withTree("sd1r1h10m20;ds1b5;ds2b11;ds1b0;ds0b0");
        comes(x, 0, 8, 0);
        Checks.due("5 and 4", 9, x.all(7));
        Checks.due("HELP is full", 10, x.hub(8, 4));
        comes(x, 1, 8, 1);
        Checks.due("BUS is full, no 4 at 2", 20, x.all(7));
        Checks.due("0 bytes at 1", 0, comes(x, 2, 8, 2));
        Checks.due("0 bytes at 0", 0, comes(x, 3, 8, 3));
        Checks.due("BUS", 20, x.all(7));
        Checks.due("HELP", 10, x.hub(8, 4));
        Checks.due("it has a HELPER for all that", 8, x.helper(3));
        HubTree y = Checks.withTree("sd1r1;ds1b1");
        comes(y, 0, 8, 0);
        Checks.due("1 byte and 4", 5, y.all(7));
    }

    /** "It runs at SPEED, but 1 at most, if its HUB does not run at 2." */
    private static void speeds() {
        for (int hub = 0; hub <= 2; hub++) {
            for (int speed = 0; speed <= 2; speed++) {
                HubTree x = Checks.withTree("sd1r1;dn1o1b0s" + hub + ";db0s" + speed + ";db0s" + speed);
                Checks.due("runs at NONE", NONE, Checks.device(x, 1, 6));
                comes(x, 0, 8, 0);
                Checks.due("the HUB at the ROOT", hub, Checks.device(x, 0, 6));
                x.plug(1, 0, 0);
                x.tick(3);
                Checks.due("runs at NONE at its SECOND", NONE, Checks.device(x, 1, 6));
                x.tick(1);
                Checks.due(speed + " beneath " + hub, hub == 2 ? speed : Math.min(speed, 1), Checks.device(x, 1, 6));
                comes(x, 2, 8, 1);
                Checks.due(speed + " at the ROOT", speed, Checks.device(x, 2, 6));
            }
        }
    }

    /** "HELPER of one that runs at 0 or 1: the first HUB above it that runs at 2." */
    private static void helpers() {
        HubTree x = Checks.withTree("sd1r1;dn2o1s2b0;dn1o1s2b0;dn1o1s1b0;ds2b1;ds0b1;ds2b1");
        comes(x, 0, 8, 0);
        comes(x, 1, 0, 0);
        comes(x, 2, 1, 0);
        comes(x, 3, 2, 0);
        comes(x, 4, 0, 1);
        comes(x, 5, 8, 1);
        Checks.due("at 2: none", NONE, x.helper(1));
        Checks.due("at 1: right above", 1, x.helper(2));
        Checks.due("at 1 beneath one at 1: farther above", 1, x.helper(3));
        Checks.due("at 0: right above", 0, x.helper(4));
        Checks.due("at 2 at the ROOT: none", NONE, x.helper(5));
        Checks.due("HELP of 1", 2, x.hub(1, 4));
        Checks.due("HELP of 0", 8, x.hub(0, 4));
        Checks.due("HELP of 2, which runs at 1", 0, x.hub(2, 4));
        Checks.due("HELP of the ROOT", 0, x.hub(8, 4));
        Checks.due("BUS", 1 + 4 + 1 + 4 + 1, x.all(7));
        x.sleep(3);
        Checks.due("ASLEEP: its HELPER", 1, x.helper(3));
        Checks.due("ASLEEP: no HELP", 0, x.hub(1, 4));
        Checks.due("ASLEEP: no BUS", 6, x.all(7));
    }

    /** "JUDGED, the first that holds: DEPTH .., no ADDRESS .., power .., time ..". */
    private static void firstThatHolds() {
        String chain = "dn1o1b0;dn1o1b0;dn1o1b0;dn1o1b0;";
        HubTree x = Checks.withTree("sd1r1a4m20;" + chain + "du9b99");
        HubTree y = Checks.withTree("sd1r1a9m20;" + chain + "du9b99");
        for (int d = 0; d < 4; d++) {
            comes(x, d, d == 0 ? 8 : d - 1, 0);
            comes(y, d, d == 0 ? 8 : d - 1, 0);
        }
        Checks.due("DEPTH ahead of no ADDRESS, power, time", 4, comes(x, 4, 3, 0));
        Checks.due("DEPTH ahead of power, time", 4, comes(y, 4, 3, 0));
        x.unplug(4);
        Checks.due("no ADDRESS ahead of power, time", 5, comes(x, 4, 8, 1));
        y.unplug(4);
        Checks.due("power ahead of time", 2, comes(y, 4, 8, 1));
        HubTree z = Checks.withTree("sd1r1m20;du5b99");
        Checks.due("time", 3, comes(z, 0, 8, 0));
    }

    /** "off, if it is CONFIGURED and its TAKES are more than its PORT GIVES or than LEFT of its HUB". */
    private static void supplyOffItself() {
        for (int units = 0; units <= 9; units++) {
            HubTree x = Checks.withTree("sd1r1p4;do1u" + units);
            comes(x, 0, 8, 0);
            Checks.due("LOST, told ahead", units > 4 ? 1 : 0, x.lost(0));
            Checks.due("off", 0, x.supply(0));
            Checks.due(units + " of 4", units > 4 ? 7 : 6, what(x, 0));
            Checks.due("WHY", units > 4 ? 2 : 0, why(x, 0));
            Checks.due("on", 1, x.supply(0));
            Checks.due("on changes nothing", units > 4 ? 7 : 6, what(x, 0));
        }
        // HUB 0 has 2 LEFT: one TAKES 1, then another, itself left out; a third has nothing.
        HubTree y = Checks.withTree("sd1r1p3;dn4u1;do1;do1;do1;do1u2");
        comes(y, 0, 8, 0);
        comes(y, 1, 0, 0);
        comes(y, 2, 0, 1);
        comes(y, 3, 0, 2);
        comes(y, 4, 0, 3);
        y.supply(1);
        y.supply(2);
        Checks.due("1 of 1 that is LEFT", 6, what(y, 2));
        Checks.due("nothing LEFT", 0, y.hub(0, 3));
        y.supply(2);
        y.supply(2);
        Checks.due("off and on: itself left out", 6, what(y, 2));
        y.supply(3);
        Checks.due("1 of 0", 2, why(y, 3));
        y.supply(1);
        y.supply(2);
        Checks.due("2 LEFT, but a PORT GIVES 1", 2, y.hub(0, 3));
        y.supply(4);
        Checks.due("2 of 1", 2, why(y, 4));
        HubTree z = Checks.withTree("sd1r1;dn1o1;do1u6;do1u5");
        comes(z, 0, 8, 0);
        comes(z, 2, 0, 0);
        z.supply(2);
        Checks.due("5 of 5", 6, what(z, 2));
        z.unplug(2);
        comes(z, 1, 0, 0);
        z.supply(1);
        Checks.due("6 of 5", 2, why(z, 1));
    }

    /** "as long as TAKES .. are more than its PORTS GIVE (each) or LEFT of it is below 0, .. is REFUSED (2)". */
    private static void supplyOffBeneath() {
        // POWER 4, UNITS 2: 2 LEFT for who TAKES 1 each.
        for (int n = 0; n <= 4; n++) {
            HubTree x = Checks.withTree("sd1r1p4;dn4o1u2;du1;du1;du1;du1");
            comes(x, 0, 8, 0);
            for (int d = 1; d <= n; d++) {
                comes(x, d, 0, d - 1);
            }
            int[] lost = {0, 0, 0, 8, 8 + 16};
            Checks.due("LOST of " + n, lost[n], x.lost(0));
            x.supply(0);
            Checks.due("REFUSED of " + n + ": the highest numbers, till none is below", lost[n], x.all(5));
            Checks.due("LEFT", Math.max(0, 2 - n), x.hub(0, 3));
            Checks.due("the HUB stays", 6, what(x, 0));
        }
        for (int units = 0; units <= 5; units++) {
            HubTree x = Checks.withTree("sd1r1p9;dn4o1u0;du" + units + ";du1");
            comes(x, 0, 8, 0);
            comes(x, 1, 0, 0);
            comes(x, 2, 0, 1);
            x.supply(0);
            Checks.due(units + " where a PORT GIVES 1, much LEFT", units > 1 ? 2 : 0, x.all(5));
        }
        // The greatest TAKES first, though a lower number would do: 3, then LEFT is 0.
        HubTree y = Checks.withTree("sd1r1p2;dn4o1u1;du1;du3;du0;du1");
        for (int d = 0; d <= 4; d++) {
            comes(y, d, d == 0 ? 8 : 0, d == 0 ? 0 : d - 1);
        }
        y.supply(0);
        Checks.due("the greatest, then of several the highest", 4 + 16, y.all(5));
        Checks.due("WHY", 2, why(y, 2));
        Checks.due("who TAKES 0 or fits stays", 1 + 2 + 8, y.all(4));
        Checks.due("those right at it alone", 0, y.hub(0, 3));
    }

    /** "A SUPPLY goes off or on": of one that is not CONFIGURED, of one without any beneath it. */
    private static void supplyOfOthers() {
        HubTree x = Checks.withTree("sd2r2y1p1;dn2o1u9;d;do1u9e1;do1u9");
        Checks.due("AWAY: off", 0, x.supply(3));
        Checks.due("AWAY: still", 0, what(x, 3));
        Checks.due("AWAY: on", 1, x.supply(3));
        x.plug(0, 8, 0);
        x.plug(1, 0, 0);
        int[] whats = {1, 1, 3, 3, 4, 5};
        for (int t = 0; t < whats.length; t++) {
            Checks.due("what it is", whats[t], what(x, 0));
            x.supply(0);
            Checks.due("off: what it was", whats[t], what(x, 0));
            x.supply(0);
            x.tick(1);
        }
        Checks.due("CONFIGURED", 6, what(x, 0));
        x.supply(0);
        Checks.due("off: REFUSED", 2, why(x, 0));
        x.supply(0);
        x.supply(0);
        Checks.due("REFUSED: stays so", 2, why(x, 0));
        x.plug(2, 8, 1);
        x.tick(20);
        x.supply(2);
        Checks.due("REFUSED for another reason", 1, why(x, 2));
    }

    /** "falls ASLEEP, if none right at it is in RESET, at a bite or CONFIGURED and not ASLEEP". */
    private static void fallingAsleep() {
        HubTree x = Checks.withTree("sd2r2y1;dn2;d;dn1o1e2;d");
        Checks.due("AWAY", NONE, x.sleep(0));
        x.plug(0, 8, 0);
        for (int t = 0; t < 6; t++) {
            Checks.due("not CONFIGURED yet", NONE, x.sleep(0));
            x.tick(1);
        }
        x.plug(1, 0, 0);
        int[] can = {1, 1, 0, 0, 0, 0, 0};
        int[] whats = {1, 1, 3, 3, 4, 5, 6};
        for (int t = 0; t < can.length; t++) {
            Checks.due("what the one right at it is", whats[t], what(x, 1));
            Checks.due("then it can fall ASLEEP", can[t] == 1 ? 1 : NONE, x.sleep(0));
            if (can[t] == 1) {
                Checks.due("and wake", 0, x.sleep(0));
            }
            x.tick(1);
        }
        Checks.due("the one right at it", 1, x.sleep(1));
        Checks.due("then it", 1, x.sleep(0));
        x.sleep(0);
        x.plug(2, 0, 1);
        x.tick(60);
        Checks.due("REFUSED right at it", 7, what(x, 2));
        x.plug(3, 2, 0);
        Checks.due("is no hindrance", 1, x.sleep(0));
        x.tick(9);
        x.sleep(0);
        Checks.due("WAITING farther beneath it is none", 1, x.sleep(0));
        HubTree y = Checks.withTree("sd1r1;dn1o1;dn1o1;d");
        comes(y, 0, 8, 0);
        comes(y, 1, 0, 0);
        comes(y, 2, 1, 0);
        Checks.due("one CONFIGURED beneath a HUB awake", NONE, y.sleep(0));
        Checks.due("nor that HUB", NONE, y.sleep(1));
        y.sleep(2);
        y.sleep(1);
        Checks.due("all ASLEEP", 1, y.sleep(0));
        Checks.due("its HUB is ASLEEP: it can't wake", NONE, y.sleep(2));
        Checks.due("nor this", NONE, y.sleep(1));
        Checks.due("who could wake", 1, y.all(12));
        y.sleep(0);
        Checks.due("who could wake then", 2, y.all(12));
    }

    /** "it wakes, if .. its UNITS (0 with its SUPPLY on) are no more than its PORT GIVES nor than LEFT of its HUB". */
    private static void wakingPower() {
        for (int units = 0; units <= 9; units++) {
            HubTree x = Checks.withTree("sd1r1p4;do1u" + units);
            comes(x, 0, 8, 0);
            x.sleep(0);
            x.supply(0);
            Checks.due("ASLEEP it TAKES 0: stays", 6, what(x, 0));
            Checks.due("could wake: " + units + " of 4", units > 4 ? 0 : 1, x.all(12));
            Checks.due("wakes: " + units + " of 4", units > 4 ? NONE : 0, x.sleep(0));
        }
        HubTree y = Checks.withTree("sd1r1p4;dn4u2;d;d;d");
        comes(y, 0, 8, 0);
        comes(y, 1, 0, 0);
        y.sleep(1);
        comes(y, 2, 0, 1);
        Checks.due("1 of 1 that is LEFT", 0, y.sleep(1));
        y.sleep(1);
        comes(y, 3, 0, 2);
        Checks.due("nothing LEFT", 0, y.hub(0, 3));
        Checks.due("1 of 0", NONE, y.sleep(1));
        Checks.due("it is ASLEEP still", 1, Checks.device(y, 1, 12));
        y.sleep(3);
        Checks.due("each alone: 1 and 3", 2 + 8, y.all(12));
        Checks.due("the one", 0, y.sleep(3));
        Checks.due("then not the other", 0, y.all(12));
        HubTree z = Checks.withTree("sd1r1p2;dn1u2;do1u9");
        comes(z, 0, 8, 0);
        comes(z, 1, 0, 0);
        z.sleep(1);
        Checks.due("with its SUPPLY on: 0 of 0", 0, z.sleep(1));
    }

    /** "and HELP, BUS, with it awake, no more than told". */
    private static void wakingTime() {
        for (int other = 3; other <= 7; other++) {
            HubTree x = Checks.withTree("sd1r1h20m200;db5;db" + other);
            comes(x, 0, 8, 0);
            x.sleep(0);
            comes(x, 1, 8, 1);
            int help = 10 + 2 * other;
            Checks.due("HELP " + help + " of 20", help > 20 ? 0 : 1, x.all(12));
            Checks.due("HELP " + help + " of 20: wakes", help > 20 ? NONE : 0, x.sleep(0));
            HubTree y = Checks.withTree("sd1r1h99m20;ds2b15;ds2b" + other);
            comes(y, 0, 8, 0);
            y.sleep(0);
            comes(y, 1, 8, 1);
            int bus = 15 + other;
            Checks.due("BUS " + bus + " of 20", bus > 20 ? 0 : 1, y.all(12));
            Checks.due("BUS " + bus + " of 20: wakes", bus > 20 ? NONE : 0, y.sleep(0));
            Checks.due("BUS", bus > 20 ? other : bus, y.all(7));
        }
    }

    /** "off, if .. it is REFUSED": where it goes on nobody is, though of the HUB without it less than 0 is LEFT. */
    private static void supplyOnRefusesNobody() {
        HubTree x = Checks.withTree("sd1r1;dn4o1;dn4o1;do1;d;d;d");
        comes(x, 0, 8, 0);
        comes(x, 1, 0, 0);
        for (int d = 2; d <= 5; d++) {
            comes(x, d, 1, d - 2);
        }
        x.supply(1);
        Checks.due("four times 5 less 1 less 1 each", 1, x.hub(1, 3));
        x.supply(0);
        Checks.due("a PORT of HUB 0 GIVES 1 now", -3, x.hub(1, 3));
        Checks.due("all run for all that", 63, x.all(4));
        x.supply(2);
        Checks.due("1 is more than -3", 2, Checks.device(x, 2, 8));
        x.supply(2);
        x.again(2);
        x.tick(4);
        Checks.due("0 is more than -3", 2, Checks.device(x, 2, 8));
        Checks.due("on", 1, x.supply(1));
        Checks.due("nobody is REFUSED by that", 1 + 2 + 8 + 16 + 32, x.all(4));
        x.again(2);
        x.tick(4);
        Checks.due("any number is LEFT now", 63, x.all(4));
        x.supply(1);
        Checks.due("off: LEFT is below 0 till all that TAKE 1 are gone, and who TAKES 0 stays", 1 + 2 + 4, x.all(4));
        Checks.due("nothing LEFT", 0, x.hub(1, 3));
    }

    /** "Whoever is no longer CONFIGURED has no ADDRESS, runs at NONE, is not ASLEEP; .. all beneath .. are WAITING". */
    private static void noLongerConfigured() {
        HubTree x = Checks.withTree("sd1r1y1p1;d;dn4o1u2b0;dn2o1b0;d;d;de1;d;d");
        comes(x, 1, 8, 0);
        comes(x, 2, 1, 0);
        comes(x, 4, 2, 0);
        x.sleep(4);
        comes(x, 5, 1, 1);
        comes(x, 3, 8, 1);
        x.plug(0, 2, 1);
        x.tick(2);
        x.plug(6, 1, 2);
        Checks.due("at its FIRST", 4, what(x, 0));
        int fails = Checks.device(x, 5, 3);
        x.supply(1);
        int[] whats = {2, 7, 2, 6, 2, 7, 1, 0};
        int[] turns = {7, 0, 8, 0, 9, 0, 0, 0};
        for (int d = 0; d < 8; d++) {
            Checks.due("what " + d + " is", whats[d], what(x, d));
            Checks.due("its TURN", turns[d], Checks.device(x, d, 2));
            Checks.due("its ADDRESS", d == 3 ? 4 : 0, Checks.device(x, d, 7));
            Checks.due("runs at", d == 3 ? 1 : NONE, Checks.device(x, d, 6));
            Checks.due("ASLEEP", 0, Checks.device(x, d, 12));
        }
        Checks.due("REFUSED beneath stays so", 1, why(x, 5));
        Checks.due("and its FAILS", fails, Checks.device(x, 5, 3));
        Checks.due("three ADDRESSES are free again", 8, x.all(9));
    }

    /** DEVICES 0 .. 7: all that holds of a HUB and of one right at it holds of HUB 7 and of DEVICE 0. */
    private static void hubSevenAboveZero() {
        HubTree x = Checks.withTree("sd1r1p3;ds2b5u1;d;d;d;d;ds1b1u2;dn4s1b0u1;dn4s2o1u2b0");
        comes(x, 7, 8, 2);
        comes(x, 0, 7, 3);
        Checks.due("its PORTS GIVE", 5, x.hub(7, 2));
        Checks.due("any number is LEFT", HIDDEN, x.hub(7, 3));
        Checks.due("BENEATH", 1, x.hub(7, 0));
        Checks.due("right at it", 1, x.hub(7, 1));
        Checks.due("DEVICE 0 runs at 2 beneath it", 2, Checks.device(x, 0, 6));
        Checks.due("HUB 7 can't fall ASLEEP", NONE, x.sleep(7));
        comes(x, 6, 7, 0);
        x.unplug(0);
        comes(x, 0, 6, 0);
        Checks.due("beneath 6, which runs at 1", 1, Checks.device(x, 0, 6));
        Checks.due("its HELPER", 7, x.helper(0));
        Checks.due("HELP of 7", 10, x.hub(7, 4));
        Checks.due("the greatest DEPTH", 3, x.all(8));
        Checks.due("BENEATH 7, through 6", 1 + 64, x.hub(7, 0));
        Checks.due("LEFT of 6: 5 less 1 less 1", 3, x.hub(6, 3));
        Checks.due("6 can't fall ASLEEP", NONE, x.sleep(6));
        x.sleep(0);
        Checks.due("LEFT of 6: ASLEEP it TAKES 0", 4, x.hub(6, 3));
        Checks.due("6 falls ASLEEP", 1, x.sleep(6));
        x.sleep(6);
        x.sleep(0);
        Checks.due("2 of 5", 0, comes(x, 5, 7, 1));
        Checks.due("LOST: 2 of 1", 32, x.lost(7));
        x.unplug(6);
        x.unplug(5);
        comes(x, 0, 7, 0);
        comes(x, 1, 7, 1);
        x.unplug(1);
        x.supply(7);
        Checks.due("3 less 2 less 1", 0, x.hub(7, 3));
        Checks.due("DEVICE 0 stays", 1 + 128, x.all(4));
        x.supply(7);
        comes(x, 1, 7, 1);
        x.supply(7);
        Checks.due("of two the highest number goes", 2, x.all(5));
        HubTree z = Checks.withTree("sd1r1;dn1o1s2b0;d;d;d;d;d;ds1b2;dn1o1s1b0");
        comes(z, 0, 8, 0);
        comes(z, 7, 0, 0);
        comes(z, 6, 7, 0);
        Checks.due("HUB 7 in the midst: BENEATH 0", 64 + 128, z.hub(0, 0));
        Checks.due("HUB 7 in the midst: HELPER", 0, z.helper(6));
        Checks.due("HUB 7 in the midst: HELP of 0", 4, z.hub(0, 4));
        Checks.due("HUB 7 in the midst: all leave", 3, z.unplug(0));
        HubTree y = Checks.withTree("sd1r1p3;du2;d;d;d;d;d;d;dn4o1u1");
        comes(y, 7, 8, 0);
        comes(y, 1, 7, 0);
        comes(y, 0, 7, 1);
        y.supply(7);
        Checks.due("the greatest TAKES goes, though its number is 0", 1, y.all(5));
        y.unplug(7);
        Checks.due("all AWAY", 255, y.all(1));
    }

    /** DEVICES 0 .. 7: of eight that are there at once each has what is its own. */
    private static void eightAtOnce() {
        HubTree x = Checks.withTree("sd1r9y3n4m200;de1;dn4o1b0s2;dn2;d;de2;d;d;do1");
        int[][] plugs = {{0, 8, 3}, {1, 8, 0}, {2, 1, 3}, {3, 2, 1}, {4, 1, 0}, {5, 1, 1}, {6, 1, 2}, {7, 8, 1}};
        for (int[] p : plugs) {
            x.plug(p[0], p[1], p[2]);
        }
        // 0 FAILS its FIRST at 11, 1 runs at 22, 2 at 33, 3 at 44, 4 FAILS its SECOND at 55, 5 runs at 66.
        x.tick(60);
        x.tick(10);
        int[][] want = {
            {2, 0, 9, 1, 8, 3, NONE, 0, 0, 0, 1, 1, 0}, {6, 0, 0, 0, 8, 0, 2, 1, 0, 1, 1, 0, 0},
            {6, 0, 0, 0, 1, 3, 1, 2, 0, 0, 2, 1, 0}, {6, 0, 0, 0, 2, 1, 1, 3, 0, 0, 3, 1, 0},
            {2, 0, 10, 1, 1, 0, NONE, 0, 0, 0, 2, 1, 0}, {6, 0, 0, 0, 1, 1, 1, 4, 0, 0, 2, 1, 0},
            {3, 5, 0, 0, 1, 2, NONE, 0, 0, 0, 2, 1, 0}, {2, 0, 8, 0, 8, 1, NONE, 0, 0, 1, 1, 0, 0},
        };
        for (int d = 0; d < 8; d++) {
            for (int what = 0; what <= 12; what++) {
                Checks.due("eight at once: " + d + " " + what, want[d][what], Checks.device(x, d, what));
            }
        }
        x.sleep(3);
        x.tick(60);
        x.tick(30);
        int[][] then = {
            {7, 0, 0, 3, 8, 3, NONE, 0, 1, 0, 1, 1, 0}, {6, 0, 0, 0, 8, 0, 2, 1, 0, 1, 1, 0, 0},
            {6, 0, 0, 0, 1, 3, 1, 2, 0, 0, 2, 1, 0}, {6, 0, 0, 0, 2, 1, 1, 3, 0, 0, 3, 0, 1},
            {7, 0, 0, 3, 1, 0, NONE, 0, 1, 0, 2, 1, 0}, {6, 0, 0, 0, 1, 1, 1, 4, 0, 0, 2, 1, 0},
            {6, 0, 0, 0, 1, 2, 1, 5, 0, 0, 2, 1, 0}, {6, 0, 0, 0, 8, 1, 1, 6, 0, 1, 1, 0, 0},
        };
        for (int d = 0; d < 8; d++) {
            for (int what = 0; what <= 12; what++) {
                Checks.due("eight in the end: " + d + " " + what, then[d][what], Checks.device(x, d, what));
            }
        }
        Checks.due("free ADDRESSES", 3, x.all(9));
        // What DEVICE 0 has is not taken for what a ninth would have.
        HubTree z = Checks.withTree("sd6;de3;d;d;d;d;d;d;d");
        z.plug(0, 8, 0);
        Checks.due("SETTLING, TIMER 6, at TIME 0: no BUS", 0, z.all(7));
        Checks.due("nor HELP", 0, z.hub(8, 4));
        HubTree y = Checks.withTree("sd9r1;dn1u9e1;d;d;d;d;d;d;dn1o1");
        Checks.due("HUBS with SUPPLY on", 128, y.all(10));
        y.plug(0, 8, 1);
        for (int time = 1; time <= 9; time++) {
            y.tick(1);
            Checks.due("nobody ASLEEP", 0, y.all(11));
            Checks.due("nobody to wake", 0, y.all(12));
            Checks.due("no BUS", 0, y.all(7));
            Checks.due("no HELP", 0, y.hub(8, 4));
        }
        y.error(0, 0);
        y.tick(9);
        Checks.due("REFUSED for want of power", 2, why(y, 0));
        y.plug(1, 8, 2);
        y.plug(2, 8, 3);
        y.tick(30);
        Checks.due("nobody else is there", NONE, y.at(3));
        Checks.due("the first ADDRESS", 1, y.at(1));
        Checks.due("the second ADDRESS", 2, y.at(2));
        for (int address = 7; address <= 10; address++) {
            Checks.due("nobody at " + address, NONE, x.at(address));
        }
    }

    /** DEVICES 0 .. 7: what the first of eight has is never taken for what a ninth would have. */
    private static void noNinth() {
        HubTree x = Checks.withTree("sd6r1p5;do1;dn4u2;d;d;d;d;d;d");
        x.plug(1, 8, 0);
        x.tick(9);
        x.plug(0, 8, 1);
        for (int timer = 6; timer >= 1; timer--) {
            Checks.due("TIMER of 0", timer, Checks.device(x, 0, 1));
            Checks.due("LEFT of 1", 3, x.hub(1, 3));
            Checks.due("1 falls ASLEEP", 1, x.sleep(1));
            Checks.due("1 wakes", 0, x.sleep(1));
            x.tick(1);
        }
        // HUB 1 can't bear 2; DEVICE 0 in PORT 1 of the ROOT is no concern of it.
        HubTree y = Checks.withTree("sd6r1p1;do1;dn4o1u1;du1;d;d;d;d;d");
        y.plug(1, 8, 0);
        y.plug(2, 1, 0);
        y.tick(12);
        y.plug(0, 8, 1);
        y.supply(1);
        Checks.due("2 is REFUSED", 4, y.all(5));
        Checks.due("1 runs", 2, y.all(4));
        Checks.due("0 SETTLES", 6, Checks.device(y, 0, 1));
        for (int ticks = 0; ticks <= 4; ticks++) {
            HubTree z = Checks.withTree("sd6r1p1;d;dn4o1u2;d;d;d;d;d;d");
            z.plug(1, 8, 0);
            z.tick(9);
            z.plug(0, 8, 1);
            for (int i = 0; i < ticks; i++) {
                z.tick(1);
            }
            z.supply(1);
            Checks.due("1 is REFUSED", 2, why(z, 1));
            Checks.due("0 SETTLES as it did", 6 - ticks, Checks.device(z, 0, 1));
            Checks.due("no TURN was given", 2, z.again(1));
        }
    }
}
