/** The boundaries that the document names under UNITS: a method for each sentence, over all units. */
public final class UnitsBoundsTest {
    private static final Due due = new Due();
    private static final String[] UNITS = {"", " l", " c", " s", " bar", " part"};
    private static final String TOLD = "signal n; signal a l; signal b c; signal t s; output p bar; output r part; ";
    private static final String[] NAMES = {"n", "a", "b", "t", "p", "r"};

    public static void main(String[] args) {
        unitsAre0To5();
        valuesAreThousandths();
        minIs60AndH3600TimesAsMuch();
        aValueIsAtMost();
        plusAndMinusAreOfEqualUnits();
        ofTimesOneHasNone();
        overNoneOrTheSame();
        aTestIsOfEqualUnits();
        setHasTheOutputsUnit();
        rampHasTheOutputsUnit();
        waitHasS();
        rampsSecondHasS();
        repeatHasNone();
        due.end();
    }

    private static void unitsAre0To5() {
        due.by("UNITS: 0 none, 1 l, 2 c, 3 s, 4 bar, 5 part");
        for (int u = 0; u < UNITS.length; u++) {
            StepText x = Due.program(TOLD + "until 1" + UNITS[u] + " = " + NAMES[u] + "; until -(1" + UNITS[u]
                    + ") = - " + NAMES[u] + ";");
            due.same("1" + UNITS[u], x.unitOf(0), u);
            due.same(NAMES[u], x.unitOf(1), u);
            due.same("- 1" + UNITS[u], x.unitOf(5), u);
            due.same("- " + NAMES[u], x.unitOf(7), u);
        }
    }

    private static void valuesAreThousandths() {
        due.by("A number's value is in thousandths");
        value("0 s", 0);
        value("0.001 s", 1);
        value("0.1 s", 100);
        value("1 s", 1_000);
        value("1.5 l", 1_500);
        value("1.05 part", 1_050);
        value("12.345 bar", 12_345);
        value("999999999.999 c", 999_999_999_999L);
    }

    private static void minIs60AndH3600TimesAsMuch() {
        due.by("min is 60, h 3,600 times as much in s");
        value("0 min", 0);
        value("0 h", 0);
        value("0.001 min", 60);
        value("0.001 h", 3_600);
        value("1 min", 60_000);
        value("1 h", 3_600_000);
        value("1.5 min", 90_000);
        value("2.25 h", 8_100_000);
        for (String unit : new String[] {"min", "h"}) {
            StepText x = Due.program("wait 1 " + unit + "; until 1 " + unit + " = 1 s;");
            due.same("the unit of 1 " + unit, x.unitOf(0), 3);
        }
    }

    private static void value(String number, long want) {
        due.same("the value of " + number, Due.program("until " + number + " < " + number + ";").number(0, 0), want);
    }

    private static void aValueIsAtMost() {
        due.by("(a value is at most 999,999,999,999) .. min or h with which a value would be too great");
        value("999999999.999", 999_999_999_999L);
        value("999999999.999 s", 999_999_999_999L);
        value("16666666.666 min", 999_999_999_960L);
        due.wrong("wait 16666666.667 !min;");
        due.wrong("wait 16666667 !min;");
        due.wrong("wait 999999999.999 !min;");
        value("277777.777 h", 999_999_997_200L);
        due.wrong("wait 277777.778 !h;");
        due.wrong("wait 277778 !h;");
        due.wrong("wait 999999999.999 !h;");
        // so great that their lowest 32 bits alone would be a small value
        due.wrong("wait 71582788.267 !min;");
        due.wrong("wait 1193046.472 !h;");
        // it is the word min or h that is wrong, before all that stands behind it and before the units
        due.wrong("repeat 999999999 !h { }");
        due.wrong("repeat 1 l + 999999999 !h { }");
        due.wrong("wait 999999999 !min 5x;");
        due.wrong("wait 999999999 min!.;");
        // values are of numbers alone: no sum is too great
        due.right("wait 999999999.999 s + 999999999.999 s;", 1);
        due.right("wait 999999999 * 999999999 * 277777 h;", 1);
    }

    /** Whether a sum of two units agrees, and which unit it has. */
    private static void joined(String sign, int left, int right, int unit) {
        String sum = "1" + UNITS[left] + " # 2" + UNITS[right];
        if (unit < 0) {
            due.wrong("until " + sum.replace("#", "!" + sign) + " < 1;");
            due.wrong("until 1 < " + sum.replace("#", "!" + sign) + ";");
            due.wrong(TOLD + "until " + NAMES[left] + " !" + sign + " - (" + NAMES[right] + ") < 1;");
            return;
        }
        for (int other = 0; other < UNITS.length; other++) {
            due.wrong("until " + sum.replace("#", sign) + "!;");
            String test = "until " + sum.replace("#", sign) + (other == unit ? " <" : " !<") + " 3" + UNITS[other] + ";";
            if (other == unit) {
                due.right(test, 1);
                due.same("unit of " + test, Due.program(test).unitOf(2), unit);
            } else {
                due.wrong(test);
            }
        }
    }

    private static void plusAndMinusAreOfEqualUnits() {
        due.by("+ and - are of equal units");
        for (int left = 0; left < UNITS.length; left++) {
            for (int right = 0; right < UNITS.length; right++) {
                joined("+", left, right, left == right ? left : -1);
                joined("-", left, right, left == right ? left : -1);
            }
        }
    }

    private static void ofTimesOneHasNone() {
        due.by("of * one has none, the product has the other's");
        for (int left = 0; left < UNITS.length; left++) {
            for (int right = 0; right < UNITS.length; right++) {
                joined("*", left, right, left == 0 ? right : right == 0 ? left : -1);
            }
        }
    }

    private static void overNoneOrTheSame() {
        due.by("/ by none keeps the unit, by the same unit gives none");
        for (int left = 0; left < UNITS.length; left++) {
            for (int right = 0; right < UNITS.length; right++) {
                joined("/", left, right, right == 0 ? left : left == right ? 0 : -1);
            }
        }
    }

    private static void aTestIsOfEqualUnits() {
        due.by("a test is of equal units");
        for (int left = 0; left < UNITS.length; left++) {
            for (int right = 0; right < UNITS.length; right++) {
                for (String sign : new String[] {"<", "=", ">"}) {
                    String mark = left == right ? "" : "!";
                    read("until 1" + UNITS[left] + " " + mark + sign + " " + NAMES[right] + ";");
                    read("if " + NAMES[left] + " " + mark + sign + " 1" + UNITS[right] + " { }");
                    read("limit " + NAMES[left] + " " + mark + sign + " " + NAMES[right] + " { } then { }");
                }
            }
        }
    }

    /** One statement behind the NAMES that are told, which is wrong when there is a mark in it. */
    private static void read(String statement) {
        if (statement.indexOf('!') < 0) {
            due.right(TOLD + statement, 1);
        } else {
            due.wrong(TOLD + statement);
        }
    }

    private static void setHasTheOutputsUnit() {
        due.by("set's and ramp's first sum have the output's unit .. of set .. the word behind a sum of another unit");
        for (int own = 0; own < UNITS.length; own++) {
            for (int other = 0; other < UNITS.length; other++) {
                String mark = own == other ? "" : "!";
                read("output q" + UNITS[own] + "; set q 1" + UNITS[other] + mark + ";");
                read("output q" + UNITS[own] + "; set q - (" + NAMES[other] + ")" + mark + ";");
            }
        }
        due.wrong("output q l; set q 1 + 2!;");
        due.wrong("output q l; set q 1 !5;");
        due.wrong("output q l; set q 1!");
        due.wrong("output q l; set q (1)!);");
        // the unit is the whole sum's
        due.right("output q l; set q 2 * 3 l;", 1);
        due.right("output q; set q 3 l / 2 l;", 1);
    }

    private static void rampHasTheOutputsUnit() {
        due.by("ramp's first sum have the output's unit .. ramp .. the word behind a sum of another unit");
        for (int own = 0; own < UNITS.length; own++) {
            for (int other = 0; other < UNITS.length; other++) {
                read("output q" + UNITS[own] + "; ramp q 1" + UNITS[other] + (own == other ? " " : " !") + "in 1 s;");
            }
        }
        due.wrong("output q l; ramp q 1 s !in 1;");
        due.wrong("output q l; ramp q 1 !;");
        due.wrong("output q l; ramp q 1!");
    }

    private static void waitHasS() {
        due.by("wait's and ramp's second one s .. wait .. the word behind a sum of another unit");
        for (int unit = 0; unit < UNITS.length; unit++) {
            read("wait 1" + UNITS[unit] + (unit == 3 ? "" : "!") + ";");
            read("wait " + NAMES[unit] + (unit == 3 ? "" : "!") + ";");
        }
        due.right("wait 1 min; wait 1 h;", 2);
        due.wrong("wait 1 s / 1 s!;");
        due.wrong("wait 1 h / 1 min !5;");
        due.wrong("wait 1!");
    }

    private static void rampsSecondHasS() {
        due.by("ramp's second one s .. ramp .. the word behind a sum of another unit");
        for (int unit = 0; unit < UNITS.length; unit++) {
            read("ramp p 1 bar in 1" + UNITS[unit] + (unit == 3 ? "" : "!") + ";");
        }
        due.right("output q; ramp q 1 in 1 min; ramp q 1 in 1 h;", 2);
        due.wrong("output q; ramp q 1 in 1!");
        due.wrong("output q; ramp q 1 in 1 !in 1 s;");
    }

    private static void repeatHasNone() {
        due.by("repeat's none .. repeat the word behind a sum of another unit");
        for (int unit = 0; unit < UNITS.length; unit++) {
            read("repeat 1" + UNITS[unit] + (unit == 0 ? " " : " !") + "{ }");
            read("repeat " + NAMES[unit] + (unit == 0 ? " " : " !") + "{ }");
        }
        due.wrong("repeat 1 min !{ }");
        due.wrong("repeat 1 h !{ }");
        due.wrong("repeat 1 l!");
        due.right("repeat 1 h / 1 min { }", 1);
    }
}
