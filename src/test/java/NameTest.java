/** Promises 20 to 25: echoes and names. */
final class NameTest {
  private static final int NONE = Lanternserver.NONE;

  private NameTest() {}

  public static void main(String[] args) {
    echoes();
    manyEchoes();
    spoiltEchoes();
    names();
    wrongNames();
    lookups();
    askingAgain();
    frames();
    longNames();
    spoiltNames();
    Check.end();
  }

  private static Watch known() {
    Watch w = new Watch();
    w.x.addHost(600, 500);
    w.x.addHost(600, 500);
    w.x.echo(1, 0, 0);
    w.x.echo(2, 0, 0);
    w.x.settle(1);
    return w;
  }

  private static void echoes() {
    Watch w = new Watch();
    Lanternserver x = w.x;
    x.addHost(600, 500);
    Check.noIndex("no host", () -> x.echo(2, 0, 0));
    Check.noIndex("no other host", () -> x.echo(1, 2, 901));
    Check.noIndex("host -1", () -> x.echo(-1, 0, 0));
    Check.noArgument("itself", () -> x.echo(1, 1, 0));
    Check.noArgument("901 bytes", () -> x.echo(1, 0, 901));
    Check.noArgument("-1 bytes", () -> x.echo(1, 0, -1));
    Check.noIndex("no echo", () -> x.isAnswered(0));
    Check.due("the first", x.echo(0, 1, 900), 0);
    Check.isTrue("not yet", !x.isAnswered(0));
    x.settle(1);
    Check.isTrue("the server can ask, too", x.isAnswered(0));
    Check.due("the second", x.echo(1, 0, 300), 1);
    Check.due("byte 255", x.byteAt(0, 42 + 255), 255);
    Check.due("byte 256", x.byteAt(0, 42 + 256), 0);
    Check.noIndex("no third", () -> x.isAnswered(2));
    Check.noIndex("echo -1", () -> x.isAnswered(-1));
    Check.due("one was answered", x.count(14), 1);
  }

  private static void manyEchoes() {
    Watch w = known();
    Lanternserver x = w.x;
    for (int k = 2; k < 40; k++) {
      Check.due("number", x.echo(1, 2, k), k);
      x.settle(1);
    }
    Check.noState("40 are all", () -> x.echo(1, 2, 0));
    Check.noArgument("the argument first", () -> x.echo(1, 1, 0));
    Check.due("all were answered", x.count(14), 40);
  }

  private static void spoiltEchoes() {
    Watch w = known();
    w.x.echo(1, 0, 9);
    w.x.deliver(0);
    w.x.spoil(0, 50, 1);
    w.x.deliver(0);
    Check.isTrue("a wrong answer does not count", !w.x.isAnswered(2));
    w.x.echo(1, 0, 9);
    w.x.deliver(0);
    w.x.twice(0);
    w.x.settle(1);
    Check.isTrue("two answers are one", w.x.isAnswered(3));
    Check.due("answered", w.x.count(14), 3);
  }

  private static int name(Watch w, int host, String text) {
    w.x.clear();
    return w.type(text).x.name(host);
  }

  private static int lookUp(Watch w, int host, String text) {
    w.x.clear();
    return w.type(text).x.lookUp(host);
  }

  private static void names() {
    Watch w = known();
    Lanternserver x = w.x;
    Check.due("one part", name(w, 1, "a"), 1);
    Check.due("the tape is empty", x.count(15), 0);
    Check.due("five parts", name(w, 0, "aaaaaaaaaaaaaaaaaaaa.0.9-z.-.z"), 5);
    Check.due("its own name again", name(w, 1, "a"), 1);
    Check.noState("another host's", () -> name(w, 2, "a"));
    Check.due("the tape stays", x.count(15), 1);
    Check.due("a new one in place of its own", name(w, 1, "b.a"), 2);
    Check.due("now it is free", name(w, 2, "a"), 1);
    Check.noIndex("no host", () -> name(w, 3, ""));
    Check.noIndex("host -1", () -> name(w, -1, "q"));
  }

  private static void wrongNames() {
    Watch w = known();
    String[] wrong = {"", ".", "a.", ".a", "a..b", "A", "a b", "a_", "aaaaaaaaaaaaaaaaaaaaa", "a.b.c.d.e.f", "`", "{",
        "/", ":", "a.b.c.d.e.", "ab\0"};
    for (String text : wrong) {
      Check.noState("name " + text, () -> name(w, 1, text));
      Check.due("the tape stays", w.x.count(15), text.length());
      Check.noState("look up " + text, () -> lookUp(w, 1, text));
      Check.due("the tape stays", w.x.count(15), text.length());
    }
    Check.noIndex("no lookup was made", () -> w.x.found(0));
  }

  private static void lookups() {
    Watch w = known();
    Lanternserver x = w.x;
    name(w, 0, "lantern.server");
    name(w, 2, "host2");
    Check.noIndex("no host", () -> lookUp(w, 3, ""));
    Check.noArgument("the server", () -> lookUp(w, 0, ""));
    Check.due("the first", lookUp(w, 1, "host2"), 0);
    Check.due("the tape is empty", x.count(15), 0);
    Check.due("no answer yet", x.found(0), NONE);
    Check.due("the second", lookUp(w, 2, "lantern.server"), 1);
    Check.due("the third", lookUp(w, 1, "lantern"), 2);
    Check.due("of the server's", lookUp(w, 1, "lantern.server.x"), 3);
    x.settle(1);
    Check.due("found host 2", x.found(0), 2);
    Check.due("found the server", x.found(1), 0);
    Check.due("there is none", x.found(2), -2);
    Check.due("nor with more parts", x.found(3), -2);
    Check.noIndex("no lookup", () -> x.found(4));
    Check.noIndex("lookup -1", () -> x.found(-1));
    name(w, 1, "lantern");
    Check.due("what was found stays", x.found(2), -2);
    for (int k = 4; k < 40; k++) {
      Check.due("number", lookUp(w, 1, "lantern"), k);
      x.settle(1);
    }
    Check.noState("40 are all", () -> lookUp(w, 1, "lantern"));
    Check.due("the last found", x.found(39), 1);
  }

  private static void askingAgain() {
    Watch w = known();
    Lanternserver x = w.x;
    name(w, 2, "b");
    lookUp(w, 1, "b");
    x.lose(0);
    String first = "";
    Check.noIndex("no lookup", () -> x.askAgain(1));
    Check.noIndex("lookup -1", () -> x.askAgain(-1));
    x.askAgain(0);
    first = w.hex(0, 34, 99);
    x.askAgain(0);
    Check.dueText("the same message", w.hex(1, 34, 99), first);
    Check.due("is another datagram", w.bytes(1)[19], w.bytes(0)[19] + 1);
    x.settle(1);
    Check.due("found", x.found(0), 2);
    Check.noState("it has an answer", () -> x.askAgain(0));
    // The first right answer counts, also if another one comes later.
    lookUp(w, 1, "c");
    x.askAgain(1);
    x.deliver(0);
    name(w, 1, "c");
    x.settle(1);
    Check.due("the first answer stays", x.found(1), -2);
  }

  private static void frames() {
    Watch w = known();
    name(w, 2, "ab.c");
    lookUp(w, 1, "q");
    w.x.settle(1);
    lookUp(w, 1, "ab.c");
    int[] b = w.bytes(0);
    Check.dueText("ports and length", w.hex(0, 34, 40), "13 89 00 35 00 1e");
    Check.due("the sum", Watch.headedSum(b), 0);
    Check.dueText("the question", w.hex(0, 42, 99), "00 01 01 00 00 01 00 00 00 00 00 00"
        + " 02 61 62 01 63 00 00 01 00 01");
    Check.due("protocol", b[23], 17);
    w.x.deliver(0);
    b = w.bytes(0);
    Check.dueText("ports and length of the answer", w.hex(0, 34, 40), "00 35 13 89 00 2e");
    Check.due("its sum", Watch.headedSum(b), 0);
    Check.dueText("the answer", w.hex(0, 42, 99), "00 01 85 00 00 01 00 01 00 00 00 00"
        + " 02 61 62 01 63 00 00 01 00 01 c0 0c 00 01 00 01 00 00 00 3c 00 04 0a 00 00 03");
    w.x.settle(1);
    lookUp(w, 1, "d");
    w.x.deliver(0);
    Check.dueText("there is none", w.hex(0, 42, 99), "00 02 85 03 00 01 00 00 00 00 00 00 01 64 00 00 01 00 01");
  }

  private static void longNames() {
    Watch w = known();
    String part = "abcdefghijklmnopqrst";
    String text = part + "." + part + "." + part + "." + part + "." + part;
    w.x.setMtu(0, 100);
    w.x.setMtu(1, 100);
    Check.due("five long parts", name(w, 2, text), 5);
    lookUp(w, 1, text);
    Check.due("in pieces", w.x.count(2), 2);
    w.x.settle(1);
    Check.due("found", w.x.found(0), 2);
  }

  private static void spoiltNames() {
    for (int at = 34; at < 34 + 28; at++) {
      Watch w = known();
      name(w, 2, "abc");
      lookUp(w, 1, "abc");
      int before = w.bytes(0)[at];
      w.x.spoil(0, at, at == 40 || at == 41 ? 255 : 5);
      w.x.deliver(0);
      Check.due("no answer to a question with a wrong byte " + at + " " + before, w.x.count(2), 0);
      w.x.askAgain(0);
      w.x.deliver(0);
      w.x.spoil(0, at, 9);
      w.x.deliver(0);
      Check.due("no answer that is wrong " + at, w.x.found(0), NONE);
      Check.due("errors", w.x.errors(), 0);
    }
  }
}
