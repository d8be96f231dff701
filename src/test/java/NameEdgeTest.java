/** The edges that sections 5 and 6 and promises 20 to 25 name, each under the sentence that names it. */
final class NameEdgeTest {
  private static final int NONE = Lanternserver.NONE;

  private NameEdgeTest() {}

  public static void main(String[] args) {
    smallestAndLargestEcho();
    lastEcho();
    echoBetweenClients();
    spoiltEchoMessages();
    partsAndLengths();
    signs();
    inPlaceOfItsOwn();
    lastLookup();
    sumOfZero();
    noSum();
    answersOnce();
    noneIsAnAnswer();
    pathsOfAnswers();
    Check.end();
  }

  private static Watch known() {
    Watch w = new Watch();
    w.x.addHost(600, 500);
    w.x.addHost(600, 500);
    w.x.pass(3);
    w.x.echo(1, 0, 0);
    w.x.settle(1);
    w.x.echo(2, 0, 0);
    w.x.settle(1);
    w.x.echo(1, 2, 0);
    w.x.settle(1);
    return w;
  }

  private static int name(Watch w, int host, String text) {
    w.x.clear();
    return w.type(text).x.name(host);
  }

  private static int lookUp(Watch w, int host, String text) {
    w.x.clear();
    return w.type(text).x.lookUp(host);
  }

  // ---- section 5

  /** "how many bytes, 0 to 900"; "bytes 0, 1, 2 and so on (modulo 256)". */
  private static void smallestAndLargestEcho() {
    Watch w = known();
    w.x.echo(1, 0, 0);
    Check.due("nothing behind the 8 bytes", w.x.frameAt(0, 0), 14 + 20 + 8);
    w.x.settle(1);
    Check.isTrue("answered", w.x.isAnswered(3));
    w.x.echo(1, 0, 1);
    Check.due("one byte", w.x.byteAt(0, 42), 0);
    w.x.settle(1);
    w.x.echo(1, 0, 258);
    int[] b = w.bytes(0);
    for (int k = 0; k < 258; k++) Check.due("byte " + k, b[42 + k], k % 256);
    Check.due("its sum", Watch.sum(b, 34, b.length), 0);
    w.x.settle(1);
    w.x.echo(1, 0, 900);
    Check.dueText("the largest", w.wire(), "1>0 part 0+576 more; 1>0 part 576+332");
    Check.due("its last byte", w.x.byteAt(1, w.x.frameAt(1, 0) - 1), 899 % 256);
    w.x.settle(1);
    for (int k = 3; k < 7; k++) Check.isTrue("answered " + k, w.x.isAnswered(k));
  }

  /** "if there are 40 echoes": over all hosts; the last one has the number 39. */
  private static void lastEcho() {
    Watch w = known();
    for (int k = 3; k < 40; k++) {
      Check.due("number", w.x.echo(k % 3, (k + 1) % 3, 0), k);
      if (k < 39) w.x.settle(1);
    }
    Check.dueText("its number", w.hex(0, 38, 42), "00 27 00 07");
    Check.noState("no 41st", () -> w.x.echo(2, 0, 0));
    Check.isTrue("not answered yet", !w.x.isAnswered(39));
    Check.noIndex("there is no 40", () -> w.x.isAnswered(40));
    w.x.settle(1);
    Check.isTrue("answered", w.x.isAnswered(39));
    Check.due("all are", w.x.count(14), 40);
  }

  /** "An answer .. from the host that was asked, to an echo that the host asked": only the echo meant is answered. */
  private static void echoBetweenClients() {
    Watch w = known();
    w.x.echo(2, 1, 4);
    w.x.echo(1, 2, 4);
    w.x.deliver(0);
    wire(w, "1>2 echo 4; 1>2 echoed 3");
    w.x.deliver(1);
    Check.isTrue("the one", w.x.isAnswered(3));
    Check.isTrue("not the other", !w.x.isAnswered(4));
    w.x.settle(1);
    Check.isTrue("the other", w.x.isAnswered(4));
  }

  private static void wire(Watch w, String due) {
    Check.dueText("the wire", w.wire(), due);
  }

  /** "A host answers a question whose sum is right"; "An answer with a right sum": no byte of them may be spoilt. */
  private static void spoiltEchoMessages() {
    for (int at = 34; at < 45; at++) {
      Watch w = known();
      w.x.echo(1, 0, 3);
      w.x.spoil(0, at, 8);
      w.x.deliver(0);
      Check.due("no answer for byte " + at, w.x.count(2), 0);
      Check.due("but it was a datagram", w.x.hostAt(0, 4), 3);
      w.x.echo(1, 0, 3);
      w.x.deliver(0);
      w.x.spoil(0, at, 8);
      w.x.deliver(0);
      Check.isTrue("not answered for byte " + at, !w.x.isAnswered(4));
      Check.due("errors", w.x.errors(), 0);
    }
  }

  // ---- section 6

  /** "parts, each behind its length (1 to 20 bytes), and a 0; 1 to 5 parts". */
  private static void partsAndLengths() {
    Watch w = known();
    String twenty = "abcdefghijklmnopqrst";
    String[] right = {"a", twenty, "a.b", "a.b.c.d.e", twenty + "." + twenty + "." + twenty + "." + twenty + "." + twenty};
    int[] parts = {1, 1, 2, 5, 5};
    for (int k = 0; k < right.length; k++) {
      Check.due("parts of " + right[k], name(w, 1, right[k]), parts[k]);
      Check.due("the tape is empty", w.x.count(15), 0);
      int number = lookUp(w, 2, right[k]);
      Check.due("the tape is empty", w.x.count(15), 0);
      w.x.settle(1);
      Check.due("found " + right[k], w.x.found(number), 1);
    }
    String[] wrong = {"", ".", "..", "a.", ".a", "a..b", twenty + "u", "a." + twenty + "u", twenty + "u.a", "a.b.c.d.e.f",
        "a.b.c.d.e.", "a.b.c.d..e"};
    for (String text : wrong) {
      Check.noState("name " + text, () -> name(w, 2, text));
      Check.due("the tape stays", w.x.count(15), text.length());
      Check.noState("lookUp " + text, () -> lookUp(w, 2, text));
      Check.due("the tape stays", w.x.count(15), text.length());
    }
    Check.due("lookups", w.lookups(), right.length);
  }

  /** "a to z, 0 to 9 and -, with . between": the signs beside each of them are none. */
  private static void signs() {
    Watch w = known();
    for (int value = 0; value < 256; value++) {
      boolean isSign = value >= 'a' && value <= 'z' || value >= '0' && value <= '9' || value == '-';
      String text = "x" + (char) value + "y";
      if (isSign || value == '.') {
        Check.due("sign " + value, name(w, 1, text), isSign ? 1 : 2);
      } else {
        Check.noState("sign " + value, () -> name(w, 1, text));
        Check.noState("to look up " + value, () -> lookUp(w, 1, text));
      }
    }
  }

  /** "in place of its own"; "or another host has it". */
  private static void inPlaceOfItsOwn() {
    Watch w = known();
    name(w, 1, "one");
    name(w, 0, "zero");
    Check.due("the same again", name(w, 1, "one"), 1);
    Check.noState("the server's", () -> name(w, 1, "zero"));
    Check.noState("the first's", () -> name(w, 0, "one"));
    name(w, 1, "on");
    Check.due("a longer one is another", name(w, 2, "one"), 1);
    Check.due("a part more is another", name(w, 0, "on.e"), 2);
    int[] numbers = {lookUp(w, 1, "one"), lookUp(w, 1, "on"), lookUp(w, 1, "zero"), lookUp(w, 2, "on.e"), lookUp(w, 2, "o")};
    w.x.settle(1);
    int[] due = {2, 1, -2, 0, -2};
    for (int k = 0; k < due.length; k++) Check.due("found " + k, w.x.found(numbers[k]), due[k]);
    // Two parts are no part with a point, and no two others.
    name(w, 1, "ab.c");
    int other = lookUp(w, 1, "a.bc");
    w.x.settle(1);
    Check.due("parts count", w.x.found(other), -2);
  }

  /** "if there are 40 lookups": over all hosts; "from the port 5000 and the number of the lookup". */
  private static void lastLookup() {
    Watch w = known();
    name(w, 2, "host");
    for (int k = 0; k < 40; k++) {
      Check.due("number", lookUp(w, 1 + k % 2, "host"), k);
      Check.dueText("port and identification of " + k, w.hex(0, 34, 36) + " " + w.hex(0, 42, 44),
          String.format("%02x %02x 00 %02x", (5000 + k) >> 8, (5000 + k) & 255, k));
      if (k < 39) w.x.settle(1);
    }
    Check.noState("no 41st", () -> lookUp(w, 1, "host"));
    Check.due("its name stays", w.x.count(15), 4);
    Check.due("no answer yet", w.x.found(39), NONE);
    Check.noIndex("there is no 40", () -> w.x.found(40));
    w.x.askAgain(39);
    w.x.settle(1);
    for (int k = 0; k < 40; k++) Check.due("found " + k, w.x.found(k), 2);
  }

  /** "a sum of 0 is sent as ff ff": these names make such sums, of a question and of an answer. */
  private static void sumOfZero() {
    Watch w = known();
    lookUp(w, 1, "uazq");
    Check.dueText("the sum", w.hex(0, 40, 42), "ff ff");
    Check.due("which is right", Watch.headedSum(w.bytes(0)), 0);
    w.x.deliver(0);
    Check.due("and taken", w.x.count(2), 1);
    w.x.settle(1);
    w = known();
    lookUp(w, 1, "9x6rxb");
    w.x.deliver(0);
    Check.dueText("the sum of the answer", w.hex(0, 40, 42), "ff ff");
    w.x.deliver(0);
    Check.due("is right", w.x.found(0), -2);
    // Spoilt to 00 ff it is wrong, and not none.
    w = known();
    lookUp(w, 1, "uazq");
    w.x.spoil(0, 40, 255);
    w.x.deliver(0);
    Check.due("no answer to a wrong sum", w.x.count(2), 0);
  }

  /** "sum (0: none ..)"; "its sum is right or none": one byte of these sums is 0, and the other is spoilt to 0. */
  private static void noSum() {
    String[] questions = {"yaz", "aaaq"};
    int[] at = {40, 41};
    for (int k = 0; k < 2; k++) {
      Watch w = known();
      lookUp(w, 1, questions[k]);
      Check.due("one byte is 0", w.x.byteAt(0, 81 - at[k]), 0);
      w.x.spoil(0, at[k], w.x.byteAt(0, at[k]));
      Check.dueText("none", w.hex(0, 40, 42), "00 00");
      w.x.deliver(0);
      Check.due("it is answered", w.x.count(2), 1);
      w.x.deliver(0);
      Check.due("and known", w.x.found(0), -2);
      Check.due("errors", w.x.errors(), 0);
      w = known();
      lookUp(w, 1, questions[k]);
      w.x.spoil(0, at[k], w.x.byteAt(0, at[k]) ^ 1);
      w.x.deliver(0);
      Check.due("a sum of 1 or 256 is none that is none", w.x.count(2), 0);
    }
    Watch w = known();
    name(w, 2, "d9n81");
    lookUp(w, 1, "d9n81");
    w.x.deliver(0);
    Check.due("the answer's sum ends with 0", w.x.byteAt(0, 41), 0);
    w.x.spoil(0, 40, w.x.byteAt(0, 40));
    w.x.deliver(0);
    Check.due("it is taken without", w.x.found(0), 2);
  }

  /** "the first right answer counts: a lookup that has one keeps it". */
  private static void answersOnce() {
    Watch w = known();
    lookUp(w, 1, "late");
    w.x.askAgain(0);
    w.x.deliver(0);
    name(w, 2, "late");
    w.x.deliver(0);
    wire(w, "0>1 names 53>5000; 0>1 names 53>5000");
    w.x.deliver(1);
    Check.due("the one that comes first", w.x.found(0), 2);
    w.x.deliver(0);
    Check.due("is kept", w.x.found(0), 2);
  }

  /** askAgain(): "IllegalStateException if it has an answer", also that there is none; not ahead of it. */
  private static void noneIsAnAnswer() {
    Watch w = known();
    lookUp(w, 1, "none");
    w.x.askAgain(0);
    wire(w, "1>0 names 5000>53; 1>0 names 5000>53");
    w.x.deliver(0);
    w.x.askAgain(0);
    Check.due("the server's answer is not one that it has", w.x.count(2), 3);
    w.x.deliver(1);
    Check.due("there is none", w.x.found(0), -2);
    Check.noState("that is an answer", () -> w.x.askAgain(0));
    Check.due("nothing was sent", w.x.count(2), 2);
  }

  /** "from the server's address and port 53 to this port": each lookup has its own answer. */
  private static void pathsOfAnswers() {
    Watch w = known();
    name(w, 0, "a");
    name(w, 1, "b");
    name(w, 2, "c");
    int[] numbers = {lookUp(w, 1, "c"), lookUp(w, 2, "a"), lookUp(w, 1, "b"), lookUp(w, 2, "d")};
    for (int k = 0; k < 4; k++) w.x.deliver(0);
    for (int k = 3; k >= 0; k--) {
      w.x.deliver(k);
      for (int n = 0; n < 4; n++) Check.due("found " + n, w.x.found(numbers[n]), n < k ? NONE : new int[] {2, 0, 1, -2}[n]);
    }
    Check.due("datagrams taken", w.x.hostAt(1, 4) + w.x.hostAt(2, 4), 3 + 1 + 4);
  }
}
