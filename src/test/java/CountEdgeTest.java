/** The edges that promises 1 to 6 and 36 to 40 name, each under the sentence that names it. */
final class CountEdgeTest {
  private CountEdgeTest() {}

  public static void main(String[] args) {
    bytesOfNumbers();
    lengthsOfTheTape();
    sumsOfAllLengths();
    codesBelow400();
    lostAndSpoilt();
    bytesSentAgain();
    shareOfOne();
    meanOfOne();
    openOnes();
    Check.end();
  }

  /** type(): "of each one the highest byte first, without those that are 0". */
  private static void bytesOfNumbers() {
    for (int place = 0; place < 48; place++) {
      long[] n = new long[6];
      n[place / 8] = 0x9bL << (56 - 8 * (place % 8));
      n[(place + 1) / 8 % 6] |= 0x01L << (56 - 8 * ((place + 1) % 8));
      Watch w = new Watch();
      Check.due("two bytes", w.x.type(n[0], n[1], n[2], n[3], n[4], n[5]), 2);
      Check.due("in the order of their places", w.x.sum(0, 2), ~(place == 47 ? 0x019b : 0x9b01) & 65535);
    }
    Lanternserver x = new Lanternserver();
    Check.due("48 bytes", x.type(-1, -1, -1, -1, -1, -1), 48);
    Check.due("the least number has one", x.type(Long.MIN_VALUE, 0, 0, 0, 0, 0), 49);
    Check.due("which is 128", x.sum(48, 49), ~0x8000 & 65535);
    Check.due("the greatest has 8", x.type(0, 0, Long.MAX_VALUE, 0, 0, 0), 57);
    Check.due("the first of which is 127", x.sum(49, 50), ~0x7f00 & 65535);
  }

  /** "It has at most 400 bytes"; "if it would be above 400": at 399, 400 and 401, by each call. */
  private static void lengthsOfTheTape() {
    for (int length = 390; length <= 400; length++) {
      for (int more = 1; more <= 12; more++) {
        Watch w = new Watch();
        w.x.put(1, 300);
        w.x.put(2, length - 300);
        int many = more;
        if (length + more <= 400) {
          Check.due("put", w.x.put(3, many), length + more);
        } else {
          Check.noState("put", () -> w.x.put(3, many));
          Check.due("stays", w.x.count(15), length);
        }
        Watch v = new Watch();
        v.x.put(1, 300);
        v.x.put(2, length - 300);
        long first = more < 8 ? -1L >>> (8 * (8 - more)) : -1;
        long last = more > 8 ? -1L >>> (8 * (16 - more)) : 0;
        if (length + more <= 400) {
          Check.due("type", v.x.type(0, first, 0, 0, 0, last), length + more);
        } else {
          Check.noState("type", () -> v.x.type(0, first, 0, 0, 0, last));
          Check.due("stays", v.x.count(15), length);
        }
      }
    }
  }

  /** sum(): "two by two .. (an odd last one is the higher byte), added up, carries added again". */
  private static void sumsOfAllLengths() {
    Watch w = new Watch();
    int[] bytes = new int[400];
    for (int k = 0; k < 400; k++) {
      bytes[k] = k < 100 ? 255 : k < 200 ? (k * 37 + 11) % 256 : k < 300 ? 0 : 254 + k % 2;
      w.x.put(bytes[k], 1);
    }
    for (int from = 0; from <= 400; from += 7) {
      for (int behind = from; behind <= 400; behind++) {
        Check.due("sum " + from + " " + behind, w.x.sum(from, behind), Watch.sum(bytes, from, behind));
      }
    }
    Check.due("of 0s", w.x.sum(200, 300), 65535);
    Check.due("of ff and nothing", w.x.sum(99, 100), 255);
    Check.due("of all 1s", w.x.sum(0, 100), 0);
  }

  /** count(11): "those with a code below 400". */
  private static void codesBelow400() {
    String[] requests = {"GET a", "GET /A", "OPTIONS *", "GET /", "PUT /", "DELETE /b"};
    int[] codes = {400, 404, 204, 200, 405, 404};
    int[] below = {0, 0, 1, 2, 2, 2};
    RequestTest t = new RequestTest();
    for (int k = 0; k < requests.length; k++) {
      t.ask(requests[k] + RequestTest.H + "Content-Length: 0\r\n\r\n");
      Check.due("code", t.w.x.servedAt(k, 2), codes[k]);
      Check.due("served", t.w.x.count(10), k + 1);
      Check.due("below 400", t.w.x.count(11), below[k]);
    }
    t.ask("PUT /b" + RequestTest.H + "Content-Length: 1\r\n\r\nx");
    t.ask("GET /b" + RequestTest.H + "If-None-Match: *\r\n\r\n");
    t.ask("GET /b" + RequestTest.H + "If-Match: x\r\n\r\n");
    Check.due("304 is below, 412 is not", t.w.x.count(11), 4);
  }

  /** count(4): "by lose(), or as they were sent"; count(5): "one that was doubled spoilt does not count once more". */
  private static void lostAndSpoilt() {
    Watch w = ConnectionTest.known(600, 500);
    w.x.echo(1, 0, 3);
    w.x.spoil(0, 44, 1);
    for (int k = 0; k < 99; k++) w.x.twice(0);
    Check.due("spoilt", w.x.count(5), 1);
    Check.due("on the wire", w.x.count(2), 100);
    Check.due("none is lost", w.x.count(4), 0);
    w.x.twice(0);
    w.x.echo(1, 0, 3);
    Check.due("two are lost", w.x.count(4), 2);
    Check.due("both were sent", w.x.count(3), 4 + 102);
    w.x.lose(7);
    Check.due("three", w.x.count(4), 3);
    w.x.spoil(3, 3, 3);
    Check.due("a spoilt one is not spoilt", w.x.count(5), 1);
    w.x.deliver(0);
    Check.due("nor is one that is delivered lost", w.x.count(4), 3);
    Check.dueReal("share", w.x.deliveredShare(), 5.0 / 106.0);
    Check.due("errors", w.x.errors(), 0);
  }

  /** count(12): "the bytes that were sent again on connections": neither SYN nor FIN are such, nor doubled frames. */
  private static void bytesSentAgain() {
    Watch w = ConnectionTest.known(600, 500);
    w.x.connect(1, 0, 80);
    w.x.lose(0);
    w.x.pass(10);
    w.x.deliver(0);
    w.x.lose(0);
    w.x.pass(10);
    Check.due("SYN, with ACK and without", w.x.count(12), 0);
    w.x.settle(1);
    w.write(0, "GET");
    w.x.twice(0);
    w.x.settle(1);
    Check.due("a doubled frame", w.x.count(12), 0);
    w.write(0, " /");
    w.x.lose(0);
    w.x.close(0, false);
    w.x.lose(0);
    w.x.pass(w.x.connectionAt(0, 10));
    Check.due("two bytes", w.x.count(12), 2);
    w.x.settle(1);
    w.x.pass(w.x.connectionAt(0, 10));
    Check.due("FIN", w.x.count(12), 2);
  }

  /** deliveredShare(): "0.0 without one". */
  private static void shareOfOne() {
    Watch w = new Watch();
    w.x.addHost(600, 500);
    Check.dueReal("without one", w.x.deliveredShare(), 0.0);
    w.x.echo(1, 0, 0);
    Check.dueReal("none of one", w.x.deliveredShare(), 0.0);
    w.x.spoil(0, 41, 8);
    w.x.deliver(0);
    Check.due("no answer", w.x.count(3), 1);
    Check.dueReal("one of one", w.x.deliveredShare(), 1.0);
    Watch v = new Watch();
    v.x.addHost(600, 500);
    v.x.echo(1, 0, 0);
    v.x.lose(0);
    Check.dueReal("one that was lost", v.x.deliveredShare(), 0.0);
    v.x.pass(5);
    v.x.echo(1, 0, 0);
    v.x.spoil(0, 41, 8);
    v.x.deliver(0);
    Check.dueReal("one of two", v.x.deliveredShare(), 0.5);
    v.x.pass(5);
    v.x.echo(1, 0, 0);
    Check.dueReal("one of three", v.x.deliveredShare(), 1.0 / 3.0);
  }

  /** meanAnswer(): "0.0f without one". */
  private static void meanOfOne() {
    RequestTest t = new RequestTest();
    Check.dueReal("without one", t.w.x.meanAnswer(), 0.0f);
    t.ask("GET /" + RequestTest.H + "\r\n");
    Check.dueReal("of one", t.w.x.meanAnswer(), 50.0f);
    t.ask("GET /a" + RequestTest.H + "\r\n");
    Check.dueReal("of two", t.w.x.meanAnswer(), 52.0f);
    t.ask("OPTIONS *" + RequestTest.H + "\r\n");
    Check.dueReal("of three", t.w.x.meanAnswer(), 177.0f / 3.0f);
    t.ask("GET /");
    Check.dueReal("one that is not whole is none", t.w.x.meanAnswer(), 177.0f / 3.0f);
  }

  /** count(7): "those that are not CLOSED". */
  private static void openOnes() {
    Watch w = ConnectionTest.open(300);
    Check.due("both ends", w.x.count(7), 2);
    w.x.close(0, false);
    Check.due("FIN_WAIT_1 is not CLOSED", w.x.count(7), 2);
    w.x.settle(1);
    Check.due("TIME_WAIT is not, the server's is", w.x.count(7), 1);
    w.x.pass(39);
    Check.due("39 ticks", w.x.count(7), 1);
    w.x.pass(1);
    Check.due("40 ticks", w.x.count(7), 0);
    Check.due("they are counted on", w.x.count(6), 2);
    w.x.connect(1, 0, 81);
    Check.due("SYN_SENT", w.x.count(7), 1);
    w.x.settle(1);
    Check.due("REFUSED", w.x.count(7), 0);
  }
}
