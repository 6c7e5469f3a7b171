-- THE CHECK: a resolved instruction is what stands in the bytes, its links are words of the tables
def gm_pl (real op : Instr) (len : Nat) : Bool := decide (real = op) && len == 1
def gm_anyF (oc idx f : Nat) : Bool := gm_pF.any (fun e => e.1 == oc && (e.2.1 == idx && e.2.2.1 == f))
def gm_anyC (oc idx f : Nat) : Bool := gm_pC.any (fun e => e.1 == oc && (e.2.1 == idx && e.2.2.1 == f))
def gm_anyS (oc idx f : Nat) : Bool := gm_pS.any (fun e => e.1 == oc && (e.2.1 == idx && e.2.2.1 == f))
def gm_anyK (oc idx : Nat) (v : Int) : Bool := gm_pK.any (fun e => e.1 == oc && (e.2.1 == idx && e.2.2.1 == v))
def gm_anyM (kd oc idx j : Nat) : Bool := gm_pM.any (fun e => e.1 == kd && (e.2.1 == oc && (e.2.2.1 == idx && e.2.2.2.1 == j)))
def gm_anyN (oc idx j : Nat) : Bool := gm_pN2.any (fun e => e.1 == oc && (e.2.1 == idx && e.2.2.1 == j))
def gm_tb (pc : Nat) (lo : Int) (offs : List Int) : List (Int × Int) := offs.mapIdx (fun k o => (lo + k, (pc : Int) + o))
def gm_res (oc : Nat) (ini : Bool) (pc : Nat) (real : Instr) (len : Nat) (op : Instr) : Bool := match op with
  | .nop => true
  | .iconst v => (match real with
    | .iconst n => n == v && len == 1
    | .bipush n => decide ((Int8.ofInt n).toInt32 = Int32.ofInt v) && len == 2
    | .sipush n => decide ((Int16.ofInt n).toInt32 = Int32.ofInt v) && len == 3
    | .ldc k => gm_anyK oc k v && len == 2
    | .ldc_w k => gm_anyK oc k v && len == 3
    | _ => false)
  | .ldc k => (match real with
    | .ldc q => gm_anyS oc q k && len == 2
    | _ => false)
  | .iload k => (match real with
    | .iload q => q == k && len == 2
    | .iload_n q => q.val == k && len == 1
    | _ => false)
  | .aload k => (match real with
    | .aload q => q == k && len == 2
    | .aload_n q => q.val == k && len == 1
    | _ => false)
  | .istore k => (match real with
    | .istore q => q == k && len == 2
    | .istore_n q => q.val == k && len == 1
    | _ => false)
  | .astore k => (match real with
    | .astore q => q == k && len == 2
    | .astore_n q => q.val == k && len == 1
    | _ => false)
  | .iinc k v => (match real with
    | .iinc q u => q == k && (u == v && len == 3)
    | _ => false)
  | .goto t => (match real with
    | .goto o => decide ((pc : Int) + o = (t.toNat : Int)) && len == 3
    | _ => false)
  | .ifCond c t => (match real with
    | .ifCond b o => decide (b = c) && (decide ((pc : Int) + o = (t.toNat : Int)) && len == 3)
    | _ => false)
  | .if_icmp c t => (match real with
    | .if_icmp b o => decide (b = c) && (decide ((pc : Int) + o = (t.toNat : Int)) && len == 3)
    | _ => false)
  | .lookupswitch d ps => (match real with
    | .tableswitch d0 lo hi offs => decide ((pc : Int) + d0 = d) && (decide (ps.toList = gm_tb pc lo offs.toList) && (decide (hi = lo + offs.toList.length - 1) && (decide (0 ≤ d) && ps.toList.all (fun q => decide (0 ≤ q.2)))))
    | .lookupswitch d0 qs => decide ((pc : Int) + d0 = d) && (decide (ps.toList = qs.toList.map (fun q => (q.1, (pc : Int) + q.2))) && ((qs.toList.zip (qs.toList.drop 1)).all (fun (a, next) => a.1 < next.1) && (decide (0 ≤ d) && ps.toList.all (fun q => decide (0 ≤ q.2)))))
    | _ => false)
  | .getfield f => (match real with
    | .getfield q => gm_anyF oc q f && len == 3
    | _ => false)
  | .putfield f => (match real with
    | .putfield q => gm_anyF oc q f && (len == 3 && (f / 100 < 10 && !((gm_cl.getD (f / 100) ("", TX0, 0)).2.1 (f % 100)).2.2.2))
    | _ => false)
  | .putstatic f => (match real with
    | .putfield q => gm_anyF oc q f && (len == 3 && (f / 100 < 10 && (((gm_cl.getD (f / 100) ("", TX0, 0)).2.1 (f % 100)).2.2.2 && (ini && f / 100 == oc))))
    | _ => false)
  | .getstatic k => (match real with
    | .getstatic q => (k == 1 && (oc == 1 && q == 24) || (k == 2 && (oc == 20 && q == 38) || k == 3 && (oc == 20 && q == 1053))) && len == 3
    | _ => false)
  | .new c => (match real with
    | .new q => gm_anyC oc q c && (len == 3 && c < 10)
    | _ => false)
  | .newarray _ => (match real with
    | .newarray t => decide (t = .int) && len == 2
    | _ => false)
  | .anewarray t => (match real with
    | .anewarray q => gm_anyC oc q (100 + t) && len == 3
    | _ => false)
  | .multianewarray _ _ => (match real with
    | .multianewarray q n => q == 9 && (n == 2 && (oc == 7 && len == 4))
    | _ => false)
  | .invokevirtual j => (match real with
    | .invokevirtual q => gm_anyM 0 oc q j && len == 3
    | _ => false)
  | .invokestatic j => (match real with
    | .invokestatic q => gm_anyM 1 oc q j && len == 3
    | _ => false)
  | .invokespecial j => (match real with
    | .invokespecial q => (if j = 9999 then gm_anyM 3 oc q j else gm_anyM 2 oc q j) && len == 3
    | _ => false)
  | .invokeinterface j _ => (match real with
    | .invokestatic q => gm_anyN oc q j && len == 3
    | _ => false)
  | .invokedynamic _ => (match real with
    | .invokestatic q => gm_anyM 4 oc q 9998 && len == 3
    | _ => false)
  | op => gm_pl real op len
def gm_chk (i : Nat) (e : gm_CE) : Bool := decide (decode (gm_by i) e.1 = .ok (e.2.1, e.2.2.1)) && gm_res (gm_mc i) (decide ((gm_y i).name = "<init>")) e.1 e.2.1 e.2.2.1 e.2.2.2
