/** Promises 18 to 21: foe, switching, edge, two. */
public final class WhatIfTest {
  private static final Check CHECK = new Check("WhatIfTest");

  public static void main(String[] args) {
    foes();
    switches();
    edges();
    silence();
    twos();
    twosByKin();
    refusals();
    CHECK.end();
  }

  private static void foes() {
    AskAnotherFirst x = CHECK.told("pnm0,0;pnm0,0;pnm80,0;pnb99,0;a01,1;a12,1;");
    CHECK.due("1 as well as 2 makes 20 of 80", x.foe(0), 1);
    CHECK.due("only 2 is an other", x.foe(1), 2);
    CHECK.due("none other on the way", x.foe(2), -9);
    CHECK.due("none other on the way", x.foe(3), -9);
    AskAnotherFirst w = CHECK.told("pnm80,0;pnm0,0;pnm0,0;a10,1;a21,1;");
    CHECK.due("0 makes 20 of 80", w.foe(2), 0);
    AskAnotherFirst y = CHECK.told("pnm0,0;pnm0,0;pnm50,0;a01,1;a12,1;");
    CHECK.due("like now", y.foe(0), -9);
    AskAnotherFirst z = CHECK.told("pnm0,0;pnd10,0;pnm80,0;a01,1;a12,1;");
    // Now 45; with 1 as x 20; with 2 as x (10 + 20) / 2.
    CHECK.due("2 makes 15", z.foe(0), 2);
    CHECK.due("now", z.run(0, 1), 45);
    CHECK.due("the kind as it was", z.person(2, 1), 2);
    AskAnotherFirst v = CHECK.told("pnm0,0;pnx10,0;pnm80,0;a01,1;a12,1;");
    // Now 20; 1 is x; with 2 as x 80.
    CHECK.due("nobody makes less", v.foe(0), -9);
  }

  private static void switches() {
    AskAnotherFirst x = CHECK.told("pfb0,0;pnb10,0;pnb20,0;pnb30,0;pnb40,0;pnb50,0;pnb0,0;pnb0,0;",
        "a01,20;a02,5;a03,9;a04,9;a05,30;a16,1;a26,1;a56,2;a57,1;");
    // n 0 2 6, w 0 5 7, s 0 3, l 0 5 7, f 0 1 6.
    CHECK.due("wise and long make 50", x.switching(0), 1);
    CHECK.due("asker as it was", x.person(0, 0), 4);
    CHECK.due("run as it was", Check.run(x, 0), 1016);
    CHECK.due("all alike", x.switching(6), 0);
    x.ask(5);
    // n 0 2 6, w 0 4, s 0 3, l 0 2 6, f 0 1 6.
    CHECK.due("5 gone: wise makes 40", x.switching(0), 1);
    x.ask(4);
    CHECK.due("4 gone, too: wise makes 30", x.switching(0), 1);
    x.ask(3);
    CHECK.due("3 gone, too: near makes 20", x.switching(0), 0);
    AskAnotherFirst y = CHECK.told("pnm0,0;pnm90,0;pwx100,0;pnm50,0;a01,9;a02,1;a03,2;a13,1;");
    // n 2 says 0; w 2; s 2; l 1 3 says 50; f 1 3.
    CHECK.due("long", y.switching(0), 3);
    AskAnotherFirst z = CHECK.told("pnm0,0;pnm40,0;pnm30,0;pwm90,0;pnx80,0;a01,9;a02,1;a03,9;a34,1;");
    // n 2 says 30; w 3 4 says 20; s 2, being nearer than 1; l 3; f 1 says 40.
    CHECK.due("first", z.switching(0), 4);
    AskAnotherFirst v = CHECK.told("pnm0,0;pnm50,0;pnm90,0;pnm40,0;a02,1;a01,5;a23,1;");
    // n 2 3 says 40; w 2 3; s 1 says 50; l 2 3; f 1.
    CHECK.due("short", v.switching(0), 2);
  }

  private static void edges() {
    AskAnotherFirst x = CHECK.told("pnb0,0;pnb0,0;pnb0,0;a01,5;a12,7;");
    CHECK.due("1 in between", x.edge(0, 1), 14);
    CHECK.due("2 at the end", x.edge(0, 2), 0);
    CHECK.due("0 not on the way", x.edge(1, 0), 0);
    CHECK.due("run as it was", x.run(0, 0), 24);
    x.ask(2);
    CHECK.due("2 gone", x.edge(0, 1), 0);
    CHECK.due("the end asked", x.edge(0, 2), 0);
  }

  private static void silence() {
    // Who can pass nothing on has none behind him, for SHORT and LONG, too.
    AskAnotherFirst x = CHECK.told("psb0,0;pnb0,0;pnb0,0;pnb0,0;a01,1;a02,30;a13,1;");
    CHECK.due("short takes 1 then", x.edge(0, 1), 58);
    AskAnotherFirst y = CHECK.told("plb0,0;pnb0,0;pnb0,0;pnb0,0;a01,1;a02,30;a13,1;a23,1;");
    CHECK.due("long takes 2 then", y.edge(0, 1), -58);
    // By MINUTES he may ask as before.
    AskAnotherFirst z = CHECK.told("pnb0,0;pnb0,0;pnb0,0;l4;b01,4;b12,5;");
    CHECK.due("back", z.edge(0, 1), 10);
  }

  private static void twos() {
    AskAnotherFirst x = CHECK.told("pnb10,0;pnb50,0;pnb7,0;a01,3;");
    CHECK.due("1 first", x.two(0, 1, 0), 60);
    CHECK.due("the other order", x.two(0, 1, 1), 1);
    CHECK.due("1 first", x.two(1, 0, 0), 60);
    CHECK.due("as told", x.two(1, 0, 1), 0);
    CHECK.due("alike", x.two(0, 2, 0), 57);
    CHECK.due("alike", x.two(0, 2, 1), 0);
    CHECK.due("alike", x.two(2, 0, 1), 0);
    CHECK.due("nobody asked", x.count(2), 0);
    x.ask(1);
    CHECK.due("1 gone", x.two(0, 2, 0), 17);
    // The one takes from the other whom he would ask.
    AskAnotherFirst y = CHECK.told("pnm0,0;pnb5,0;pnb90,0;a02,1;a12,1;");
    CHECK.due("1 alone says 5, 0 through 2 says 90", y.two(0, 1, 0), 95);
    CHECK.due("in this order", y.two(0, 1, 1), 0);
    CHECK.due("in the other order", y.two(1, 0, 1), 1);
    CHECK.due("in the other order", y.two(1, 0, 0), 95);
  }

  private static void twosByKin() {
    AskAnotherFirst x = CHECK.told("pnm10,3;pnm20,0;pnm90,3;a12,1;l1;");
    CHECK.due("0, and 2 is of his kin then", x.two(0, 1, 0), 100);
    CHECK.due("1 first", x.two(0, 1, 1), 1);
    CHECK.due("as told", x.two(1, 0, 1), 0);
  }

  private static void refusals() {
    AskAnotherFirst x = CHECK.told("pnb1,0;pnb1,0;pnb1,0;");
    x.ask(1);
    CHECK.due("foe(3)", x.foe(3), -1);
    CHECK.due("foe(1)", x.foe(1), -3);
    CHECK.due("switching(-1)", x.switching(-1), -1);
    CHECK.due("switching(1)", x.switching(1), -3);
    CHECK.due("edge(1, 3)", x.edge(1, 3), 1000000001);
    CHECK.due("edge(3, 1)", x.edge(3, 1), 1000000001);
    CHECK.due("edge(1, 1)", x.edge(1, 1), 1000000001);
    CHECK.due("edge(1, 0)", x.edge(1, 0), 1000000003);
    CHECK.due("edge(0, 1)", x.edge(0, 1), 0);
    CHECK.due("two(1, 1, 5)", x.two(1, 1, 5), -1);
    CHECK.due("two(0, 3, 5)", x.two(0, 3, 5), -1);
    CHECK.due("two(-1, 0, 0)", x.two(-1, 0, 0), -1);
    CHECK.due("two(1, 0, 2)", x.two(1, 0, 2), -2);
    CHECK.due("two(1, 0, -1)", x.two(1, 0, -1), -2);
    CHECK.due("two(1, 0, 1)", x.two(1, 0, 1), -3);
    CHECK.due("two(0, 1, 1)", x.two(0, 1, 1), -3);
    CHECK.due("two(0, 2, 0)", x.two(0, 2, 0), 2);
    CHECK.due("refusals", Check.refusals(x), 50208);
  }
}
