/-! ===== one row of code: its check, and that it does what gsem says ===== -/
def gtgt (pc : Nat) (off : Int) (a : Nat) : Bool := decide ((pc : Int) + off = (a : Int))
def gvI (v : gV) (k : Int32 → Bool) : Bool := match v with
  | .inl (.int x) => k x
  | _ => false
def gvL (v : gV) (k : Int64 → Bool) : Bool := match v with
  | .inl (.long x) => k x
  | _ => false
/-- the kind that a method is called upon -/
def gclc (a k : Nat) : Bool := match gobj k with
  | some (ci, _) => match vwCl[ci]? with
    | some z => decide (z.1 = gcls (hcl a))
    | none => false
  | none => Nat.beq k 2 && Nat.beq (hcl a) 12
/-- a call's tag and room -/
def gcalc (y a : Nat) (v : gV) : Bool := match v with
  | .inr (tag, m1, m2) => Nat.beq m1 (hmc a) && (Nat.beq m2 (hms a) && ((Nat.blt 0 m1 || Nat.beq m2 0) && ((Nat.beq tag 0 == (hr a).isNone) && (Nat.ble (hfr a + 1) (hfr y) && Nat.ble (8 + (hml a + 11) + hlo a) (hlo y)))))
  | _ => false
/-- the check of a row, by its instruction -/
def gck2 (y : Nat) (e : gE) (rest : List gE) : Bool :=
  let a := e.2.2.2.1
  let b := e.2.2.2.2.1
  let v := e.2.2.2.2.2
  match e.2.2.1 with
  | .iconst n => Nat.beq e.2.1 1 && gvI v fun x => decide (Int32.ofInt n = x)
  | .bipush n => Nat.beq e.2.1 2 && gvI v fun x => decide ((Int8.ofInt n).toInt32 = x)
  | .sipush n => Nat.beq e.2.1 3 && gvI v fun x => decide ((Int16.ofInt n).toInt32 = x)
  | .lconst n => Nat.beq e.2.1 1 && gvL v fun x => decide (Int64.ofNat (n : Nat) = x)
  | .dconst n => Nat.beq e.2.1 1 && Nat.beq (n : Nat) 0
  | .ldc n => Nat.beq e.2.1 2 && match v with
    | .inr (2, k, 0) => gTx2.any (fun q => decide (q.1 = (hy y).cls) && (Nat.beq q.2.1 n && Nat.beq q.2.2.2 k))
    | .inr _ => false
    | .inl (.int x) => gKi.any (fun q => decide (q.1 = (hy y).cls) && (Nat.beq q.2.1 n && decide (q.2.2 = x)))
    | _ => true
  | .ldc2_w n => Nat.beq e.2.1 3 && gvL v fun x => gKl.any (fun q => decide (q.1 = (hy y).cls) && (Nat.beq q.2.1 n && decide (q.2.2 = x)))
  | .getstatic n => Nat.beq e.2.1 3 && (decide ((n, hcl y, a) = ((164, 7, 0) : Nat × Nat × Nat)) || decide ((n, hcl y, a) = ((187, 9, 1) : Nat × Nat × Nat)))
  | .iload_n j => Nat.beq e.2.1 1 && Nat.beq (j : Nat) a
  | .lload_n j => Nat.beq e.2.1 1 && Nat.beq (j : Nat) a
  | .aload_n j => Nat.beq e.2.1 1 && Nat.beq (j : Nat) a
  | .iload j => Nat.beq e.2.1 2 && Nat.beq j a
  | .lload j => Nat.beq e.2.1 2 && Nat.beq j a
  | .dload j => Nat.beq e.2.1 2 && Nat.beq j a
  | .aload j => Nat.beq e.2.1 2 && Nat.beq j a
  | .istore_n j => Nat.beq e.2.1 1 && (Nat.beq (j : Nat) a && Nat.blt a (hml y))
  | .astore_n j => Nat.beq e.2.1 1 && (Nat.beq (j : Nat) a && Nat.blt a (hml y))
  | .lstore_n j => Nat.beq e.2.1 1 && (Nat.beq (j : Nat) a && Nat.blt (a + 1) (hml y))
  | .istore j => Nat.beq e.2.1 2 && (Nat.beq j a && Nat.blt a (hml y))
  | .astore j => Nat.beq e.2.1 2 && (Nat.beq j a && Nat.blt a (hml y))
  | .lstore j => Nat.beq e.2.1 2 && (Nat.beq j a && Nat.blt (a + 1) (hml y))
  | .dstore j => Nat.beq e.2.1 2 && (Nat.beq j a && Nat.blt (a + 1) (hml y))
  | .iinc j n => Nat.beq e.2.1 3 && (Nat.beq j a && (Nat.blt a (hml y) && gvI v fun x => decide (Int32.ofInt n = x)))
  | .ifCond _ off => Nat.beq e.2.1 3 && gtgt e.1 off a
  | .if_icmp _ off => Nat.beq e.2.1 3 && gtgt e.1 off a
  | .goto off => Nat.beq e.2.1 3 && gtgt e.1 off a
  | .ifnull off => Nat.beq e.2.1 3 && gtgt e.1 off a
  | .ifnonnull off => Nat.beq e.2.1 3 && gtgt e.1 off a
  | .tableswitch d lo hi offs => decide (0 ≤ (e.1 : Int) + d) && (offs.toList.all (fun o => decide (0 ≤ (e.1 : Int) + o)) && decide (hi = lo + (offs.size : Int) - 1))
  | .getfield n => Nat.beq e.2.1 3 && match gobj a with
    | some (ci, _) => Nat.blt ci 10 && (Nat.blt b (gsz ci) && (gFT.contains (hcl y, n, ci, b) || gFN.contains (hcl y, n, ci, b)))
    | none => false
  | .putfield n => Nat.beq e.2.1 3 && match gobj a with
    | some (ci, fl) => Nat.blt ci 10 && (Nat.blt b (gsz ci) && ((gFT.contains (hcl y, n, ci, b) || gFN.contains (hcl y, n, ci, b)) && match fl[b]? with
      | some u => Nat.blt 2 u.1 || gFWt.contains (ci, b, u.1)
      | none => true))
    | none => false
  | .invokevirtual n => Nat.beq e.2.1 3 && (match v with
    | .inl _ => true
    | .inr _ => (Nat.blt a 314 && (gYc.contains a && (gML.contains (hcl y, n, a) && (gYi.contains a && ((gYp.contains a || gYq.contains a) && (Nat.beq (b % 16) (hnp a + 1) && (Nat.blt 0 (b / 16) && gclc a (b / 16) && gcalc y a v))))))))
  | .invokestatic n => Nat.beq e.2.1 3 && (if b = 9 then decide (n = 54 ∧ hcl y = 6) && (Nat.ble 1 (hfr y) && Nat.ble 26 (hlo y)) else (Nat.blt a 314 && (gYs.contains a && (Nat.beq (b % 16) (hnp a) && (Nat.beq (b / 16) 0 && gcalc y a v))) && ((gYc.contains a && (gML.contains (hcl y, n, a) || gNlink.contains (hcl y, n, a))) || (gYx.contains a && gML.contains (hcl y, n, a)))))
  | .ireturn => Nat.beq e.2.1 1 && (decide (hr y = some .int) || decide (hr y = some .boolean))
  | .lreturn => Nat.beq e.2.1 1 && decide (hr y = some .long)
  | .dreturn => Nat.beq e.2.1 1 && decide (hr y = some .double)
  | .areturn => Nat.beq e.2.1 1 && decide (hr y = some (.object "ToeplitzLab$State"))
  | .return_ => Nat.beq e.2.1 1 && decide (hr y = none)
  | .new ik => match a with
    | 1 => Nat.beq (hcl y) 7 && ((hht y).isEmpty && (Nat.blt 5 (hfr y) && (Nat.ble 82 (hlo y) && (match rest with
      | (p3, l3, .dup, _) :: (p4, l4, .ldc is, _) :: (p6, l6, .invokespecial ic, _) :: (p9, l9, .athrow, _) :: _ => Nat.beq p3 (e.1 + 3) && (Nat.beq l3 1 && (Nat.beq p4 (e.1 + 4) && (Nat.beq l4 2 && (Nat.beq p6 (e.1 + 6) && (Nat.beq l6 3 && (Nat.beq p9 (e.1 + 9) && (Nat.beq l9 1 && gthrT.contains (ik, is, ic, b))))))))
      | (p3, l3, .dup, _) :: (p4, l4, .ldc_w is, _) :: (p6, l6, .invokespecial ic, _) :: (p9, l9, .athrow, _) :: _ => Nat.beq p3 (e.1 + 3) && (Nat.beq l3 1 && (Nat.beq p4 (e.1 + 4) && (Nat.beq l4 3 && (Nat.beq p6 (e.1 + 7) && (Nat.beq l6 3 && (Nat.beq p9 (e.1 + 10) && (Nat.beq l9 1 && gthrT.contains (ik, is, ic, b))))))))
      | _ => false))))
    | _ => Nat.ble 3 (hfr y) && (Nat.ble 40 (hlo y) && (match rest with
      | (p3, l3, .dup, _) :: (p4, l4, .invokespecial ic, _) :: rest2 => Nat.beq p3 (e.1 + 3) && (Nat.beq l3 1 && (Nat.beq p4 (e.1 + 4) && (Nat.beq l4 3 && ((decide ((hcl y, ik, ic) = ((2, 9, 21) : Nat × Nat × Nat)) || decide ((hcl y, ik, ic) = ((7, 16, 18) : Nat × Nat × Nat))) && (match rest2 with
        | e7 :: _ => Nat.beq e7.1 (e.1 + 7)
        | [] => true)))))
      | _ => false))
  | .invokespecial _ => true
  | .ldc_w n => match v with
    | .inl (.int x) => Nat.beq e.2.1 3 && gKi.any (fun q => decide (q.1 = (hy y).cls) && (Nat.beq q.2.1 n && decide (q.2.2 = x)))
    | _ => true
  | .newarray t => Nat.beq e.2.1 2 && (decide (t = .int) && ((Nat.beq a 53 && Nat.beq b 7) || (Nat.beq a 54 && Nat.beq b 5)))
  | _ => Nat.beq e.2.1 1
def gck1 (y : Nat) (e : gE) (rest : List gE) : Bool := decide (decode (hb y) e.1 = .ok (e.2.2.1, e.2.1)) && ((match rest with
  | [] => true
  | e2 :: _ => Nat.beq e2.1 (e.1 + e.2.1)) && gck2 y e rest)
def gckL (y : Nat) : List gE → Bool
  | [] => true
  | e :: rest => gck1 y e rest && gckL y rest
