/-! ===== a small machine over the system's things: a thing is (kind, number, row); what whole numbers and longs they hold is I and J; which of the things that are made late stand is B ===== -/
abbrev gR : Type := Nat × Nat × Nat
abbrev gV : Type := Value ⊕ gR
abbrev gI : Type := Nat → Nat → Nat → Nat → Int32
abbrev gJ : Type := Nat → Nat → Nat → Int64
abbrev gB : Type := Nat → Bool
abbrev gM : Type := List (Nat × gV) → List gV → gI → gJ → gB → Nat → Nat → Prop
/-- a row of code: place, length, instruction, two numbers, a value -/
abbrev gE : Type := Nat × Nat × Instr × Nat × Nat × gV
abbrev gQt : Type := gV → gI → gJ → gB → Prop
abbrev gXt : Type := Nat → gI → gJ → gB → Prop
/-- the objects' kinds: the number in vwCl; the fields (0 int, 1 long, 2 boolean, 100 + k a thing of kind k whose number is greater by the second) -/
def gobj (k : Nat) : Option (Nat × List (Nat × Nat)) := match k with
  | 3 => some (7, [(104, 0), (106, 0), (106, 1), (113, 0), (115, 0), (116, 0), (117, 0), (120, 0), (125, 0), (128, 0), (130, 0)])
  | 4 => some (3, [(105, 0), (0, 0), (106, 2), (0, 0), (0, 0), (0, 0), (0, 0), (0, 0), (0, 0), (0, 0), (0, 0), (0, 0), (0, 0), (0, 0)])
  | 6 => some (6, [(0, 0), (0, 0), (107, 0), (108, 0), (109, 0), (0, 0), (1, 0), (110, 0), (111, 0), (0, 0), (112, 0)])
  | 13 => some (2, [(114, 0), (0, 0), (0, 0)])
  | 17 => some (1, [(118, 0), (0, 0), (0, 0), (0, 0), (0, 0), (0, 0)])
  | 20 => some (5, [(121, 0), (123, 0)])
  | 25 => some (0, [(126, 0), (127, 0)])
  | 28 => some (4, [(117, 1), (129, 0)])
  | 48 => some (8, [(100, 0), (0, 0)])
  | 49 => some (9, [(101, 2), (150, 0), (151, 0), (152, 0), (0, 0), (0, 0)])
  | _ => none
/-- the arrays' kinds: what they hold (0 int, 1 long, 2 boolean, 3 byte, 4 double, 5 rows of the kind that stands third, 6 states from the number that stands third on), how many -/
def garr (k : Nat) : Option (Nat × Nat × Nat) := match k with
  | 5 => some (3, 700, 0)
  | 7 => some (0, 13, 0)
  | 8 => some (0, 7, 0)
  | 9 => some (0, 7, 0)
  | 10 => some (1, 7, 0)
  | 11 => some (0, 7, 0)
  | 12 => some (0, 90, 0)
  | 14 => some (6, 8, 3)
  | 15 => some (6, 2, 11)
  | 16 => some (2, 2, 0)
  | 18 => some (5, 7, 19)
  | 19 => some (0, 14, 0)
  | 21 => some (5, 7, 22)
  | 22 => some (0, 7, 0)
  | 23 => some (5, 7, 24)
  | 24 => some (0, 7, 0)
  | 26 => some (1, 7, 0)
  | 27 => some (1, 7, 0)
  | 29 => some (0, 7, 0)
  | 30 => some (0, 8, 0)
  | 50 => some (0, 13, 0)
  | 51 => some (0, 7, 0)
  | 52 => some (0, 7, 0)
  | 53 => some (0, 7, 0)
  | 54 => some (0, 5, 0)
  | _ => none
/-- the things of a state -/
def gstate (n : Nat) : List gR := [(6, n, 0), (7, n, 0), (8, n, 0), (9, n, 0), (10, n, 0), (11, n, 0), (12, n, 0)]
def growsOf (k n : Nat) : List gR := [(k, n, 0), (k, n, 1), (k, n, 2), (k, n, 3), (k, n, 4), (k, n, 5), (k, n, 6)]
/-- the things that always stand -/
def gperm : List gR := [(3, 0, 0), (4, 0, 0), (5, 0, 0)] ++ gstate 0 ++ gstate 1 ++ gstate 2 ++ [(13, 0, 0), (14, 0, 0), (15, 0, 0), (16, 0, 0), (17, 0, 0), (18, 0, 0)] ++ growsOf 19 0 ++ [(17, 1, 0), (18, 1, 0)] ++ growsOf 19 1 ++ [(20, 0, 0), (21, 0, 0)] ++ growsOf 22 0 ++ [(23, 0, 0)] ++ growsOf 24 0 ++ [(25, 0, 0), (26, 0, 0), (27, 0, 0), (28, 0, 0), (29, 0, 0), (30, 0, 0), (48, 0, 0), (49, 0, 0), (50, 0, 0), (51, 0, 0), (52, 0, 0)]
def gall : List gR := gperm ++ gstate 3 ++ gstate 4 ++ gstate 5 ++ gstate 6 ++ gstate 7 ++ gstate 8 ++ gstate 9 ++ gstate 10 ++ gstate 11 ++ gstate 12 ++ (List.range 300).map (fun i => (53, 100 + i, 0)) ++ (List.range 20).map (fun i => (54, 400 + i, 0))
def gids (B : gB) : List gR := gall.filter (fun r => Nat.blt r.2.1 3 || B r.2.1)
/-- values -/
def gcat : gV → Nat
  | .inl v => v.category
  | .inr _ => 1
def gcv (ad : gR → Nat) : gV → Value
  | .inl v => v
  | .inr r => .ref (ad r)
def gcp (ad : gR → Nat) (q : Nat × gV) : Nat × Value := (q.1, gcv ad q.2)
/-- writing -/
def gUI (I : gI) (k n i j : Nat) (x : Int32) : gI := fun a b c d => if a = k ∧ b = n ∧ c = i ∧ d = j then x else I a b c d
def gUJ (J : gJ) (k n j : Nat) (x : Int64) : gJ := fun a b d => if a = k ∧ b = n ∧ d = j then x else J a b d
def gUB (B : gB) (n : Nat) : gB := fun a => if a = n then true else B a
/-- local places -/
def gset1 (ls : List (Nat × gV)) (a : Nat) (v : gV) : List (Nat × gV) := (a, v) :: ls.filter (fun q => !(q.1 == a) && !(q.1 + 1 == a && gcat q.2 == 2))
def gset2 (ls : List (Nat × gV)) (a : Nat) (v : gV) : List (Nat × gV) := (a, v) :: ls.filter (fun q => !(q.1 == a) && (!(q.1 == a + 1) && !(q.1 + 1 == a && gcat q.2 == 2)))
def gpick (live : List Nat) (ls : List (Nat × gV)) : List (Nat × gV) := live.filterMap (fun i => (ls.lookup i).map (fun v => (i, v)))
def gldv (ls : List (Nat × gV)) (a : Nat) (k : gV → Prop) : Prop := match ls.lookup a with
  | some v => k v
  | none => False
/-- what stands on top -/
def gvi (v : gV) (k : Int32 → Prop) : Prop := match v with
  | .inl (.int x) => k x
  | _ => False
def gvl (v : gV) (k : Int64 → Prop) : Prop := match v with
  | .inl (.long x) => k x
  | _ => False
def gvd (v : gV) (k : UInt64 → Prop) : Prop := match v with
  | .inl (.double x) => k x
  | _ => False
def gvr (v : gV) (k : gR → Prop) : Prop := match v with
  | .inr r => k r
  | _ => False
def gvn (v : gV) (a : Prop) (k : gR → Prop) : Prop := match v with
  | .inr r => k r
  | .inl .null => a
  | _ => False
def gtop (st : List gV) (k : gV → List gV → Prop) : Prop := match st with
  | v :: r => k v r
  | [] => False
def gpi (st : List gV) (k : Int32 → List gV → Prop) : Prop := gtop st fun v r => gvi v fun x => k x r
def gpl (st : List gV) (k : Int64 → List gV → Prop) : Prop := gtop st fun v r => gvl v fun x => k x r
def gpd (st : List gV) (k : UInt64 → List gV → Prop) : Prop := gtop st fun v r => gvd v fun x => k x r
def gpr (st : List gV) (k : gR → List gV → Prop) : Prop := gtop st fun v r => gvr v fun x => k x r
def gno (st : List gV) (k : Prop) : Prop := match st with
  | [] => k
  | _ => False
/-- the primes that stand in the static row -/
def gprime (j : Nat) : Int32 := ([2, 3, 5, 7, 11, 13, 17, 19, 23, 29, 31] : List Int32).getD j 0
/-- loads from arrays -/
def gial (L : Nat) (xs : Nat → Int32) (I : gI) (q : gR) (i : Int32) (k : Int32 → Prop) : Prop := match q.1 with
  | 0 => vp_in i L ∧ k (xs i.toNatClampNeg)
  | 1 => vp_in i 11 ∧ k (gprime i.toNatClampNeg)
  | kk => match garr kk with
    | some (0, n, _) => vp_in i n ∧ k (I kk q.2.1 q.2.2 i.toNatClampNeg)
    | _ => False
def gbal (I : gI) (q : gR) (i : Int32) (k : Int32 → Prop) : Prop := match garr q.1 with
  | some (2, n, _) => vp_in i n ∧ k (I q.1 q.2.1 q.2.2 i.toNatClampNeg)
  | some (3, n, _) => vp_in i n ∧ k (I q.1 q.2.1 q.2.2 i.toNatClampNeg)
  | _ => False
def glal (J : gJ) (q : gR) (i : Int32) (k : Int64 → Prop) : Prop := match garr q.1 with
  | some (1, n, _) => vp_in i n ∧ k (J q.1 q.2.1 i.toNatClampNeg)
  | _ => False
def gdal (J : gJ) (q : gR) (i : Int32) (k : UInt64 → Prop) : Prop := match garr q.1 with
  | some (4, n, _) => vp_in i n ∧ k (J q.1 q.2.1 i.toNatClampNeg).toUInt64
  | _ => False
def gaal (B : gB) (q : gR) (i : Int32) (k : gV → Prop) : Prop := match garr q.1 with
  | some (5, n, rk) => vp_in i n ∧ k (.inr (rk, q.2.1, i.toNatClampNeg))
  | some (6, n, rk) => vp_in i n ∧ (B (rk + i.toNatClampNeg + 17) = true → k (.inr (6, rk + i.toNatClampNeg, 0))) ∧ (B (rk + i.toNatClampNeg + 17) = false → k (.inl .null))
  | _ => False
/-- stores -/
def gias (I : gI) (q : gR) (i x : Int32) (k : gI → Prop) : Prop := match garr q.1 with
  | some (0, n, _) => vp_in i n ∧ k (gUI I q.1 q.2.1 q.2.2 i.toNatClampNeg x)
  | _ => False
def gbas (I : gI) (q : gR) (i x : Int32) (k : gI → Prop) : Prop := match garr q.1 with
  | some (2, n, _) => vp_in i n ∧ k (gUI I q.1 q.2.1 q.2.2 i.toNatClampNeg (vp_nar .boolean x))
  | some (3, n, _) => vp_in i n ∧ k (gUI I q.1 q.2.1 q.2.2 i.toNatClampNeg x.toInt8.toInt32)
  | _ => False
def glas (J : gJ) (q : gR) (i : Int32) (x : Int64) (k : gJ → Prop) : Prop := match garr q.1 with
  | some (1, n, _) => vp_in i n ∧ k (gUJ J q.1 q.2.1 i.toNatClampNeg x)
  | _ => False
def gdas (J : gJ) (q : gR) (i : Int32) (x : UInt64) (k : gJ → Prop) : Prop := match garr q.1 with
  | some (4, n, _) => vp_in i n ∧ k (gUJ J q.1 q.2.1 i.toNatClampNeg x.toInt64)
  | _ => False
def gaas (B : gB) (q v : gR) (i : Int32) (k : gB → Prop) : Prop := match garr q.1 with
  | some (6, n, rk) => vp_in i n ∧ v = (6, rk + i.toNatClampNeg, 0) ∧ k (gUB B (rk + i.toNatClampNeg + 17))
  | _ => False
def gln (L : Nat) (q : gR) (k : Int32 → Prop) : Prop := match q.1 with
  | 0 => k (Int32.ofNat L)
  | 1 => k 11
  | kk => match garr kk with
    | some (_, n, _) => k (Int32.ofNat n)
    | none => False
/-- fields -/
def gfg (I : gI) (J : gJ) (q : gR) (a b : Nat) (k : gV → Prop) : Prop := match Nat.beq q.1 a, gobj a with
  | true, some (_, fl) => match fl[b]? with
    | some (0, _) => k (.inl (.int (I a q.2.1 0 b)))
    | some (1, _) => k (.inl (.long (J a q.2.1 b)))
    | some (2, _) => k (.inl (.int (I a q.2.1 0 b)))
    | some (101, _) => False
    | some (cd, dn) => k (.inr (cd - 100, q.2.1 + dn, 0))
    | none => False
  | _, _ => False
def gfp (I : gI) (J : gJ) (q : gR) (a b : Nat) (v : gV) (k : gI → gJ → Prop) : Prop := match Nat.beq q.1 a, gobj a with
  | true, some (_, fl) => match fl[b]? with
    | some (0, _) => gvi v fun x => k (gUI I a q.2.1 0 b x) J
    | some (1, _) => gvl v fun x => k I (gUJ J a q.2.1 b x)
    | some (2, _) => gvi v fun x => (x = 0 ∨ x = 1) ∧ k (gUI I a q.2.1 0 b x) J
    | _ => False
  | _, _ => False
/-- copies of whole stretches -/
def gcpI (I : gI) (s d : gR) (sp dp n : Nat) : gI := fun a b c j => if a = d.1 ∧ b = d.2.1 ∧ c = d.2.2 then va_cpy (I s.1 s.2.1 s.2.2) (I d.1 d.2.1 d.2.2) sp dp n j else I a b c j
def gcpJ (J : gJ) (s d : gR) (sp dp n : Nat) : gJ := fun a b j => if a = d.1 ∧ b = d.2.1 then va_cpy (J s.1 s.2.1) (J d.1 d.2.1) sp dp n j else J a b j
def gcpy (I : gI) (J : gJ) (s d : gR) (sp dp n : Int32) (k : gI → gJ → Prop) : Prop := match garr s.1, garr d.1 with
  | some (0, n0, _), some (0, n1, _) => (¬ sp < 0 ∧ ¬ dp < 0 ∧ ¬ n < 0 ∧ sp.toNatClampNeg + n.toNatClampNeg ≤ n0 ∧ dp.toNatClampNeg + n.toNatClampNeg ≤ n1 ∧ s ≠ d) ∧ k (gcpI I s d sp.toNatClampNeg dp.toNatClampNeg n.toNatClampNeg) J
  | some (1, n0, _), some (1, n1, _) => (¬ sp < 0 ∧ ¬ dp < 0 ∧ ¬ n < 0 ∧ sp.toNatClampNeg + n.toNatClampNeg ≤ n0 ∧ dp.toNatClampNeg + n.toNatClampNeg ≤ n1 ∧ s ≠ d) ∧ k I (gcpJ J s d sp.toNatClampNeg dp.toNatClampNeg n.toNatClampNeg)
  | _, _ => False
/-- a new state, all zero -/
def gnwI (I : gI) (m : Nat) : gI := fun a b c j => if b = m ∧ 6 ≤ a ∧ a ≤ 12 then 0 else I a b c j
def gnwJ (J : gJ) (m : Nat) : gJ := fun a b j => if b = m ∧ a = 6 ∧ j = 6 then 1 else if b = m ∧ a = 10 then 0 else J a b j
/-- a new row of numbers, all zero -/
def gnaI (I : gI) (k m : Nat) : gI := fun a b c j => if a = k ∧ b = m then 0 else I a b c j
/-- which of three -/
def gx3 (k : Nat) (a b c : Prop) : Prop := match k with
  | 0 => a
  | 1 => b
  | _ => c
def gto (cd : List gE) (t : Nat) : List gE := cd.dropWhile (fun e => !(Nat.beq e.1 t))
def gsum (st : List gV) : Nat := (st.map gcat).sum
/-- a handler: from, to, where, for which of the three -/
abbrev gH : Type := List (Nat × Nat × Nat × Nat)
def ghf (hs : gH) (pc k : Nat) : Option Nat := match hs with
  | [] => none
  | (a, b, h, j) :: r => match Nat.ble a pc && Nat.blt pc b && Nat.beq j k with
    | true => some h
    | false => ghf r pc k
/-- from a handler's first row, which lays the exception away, on -/
def ghg (cd : List gE) (h : Nat) (go : List gE → List (Nat × gV) → Prop) (ls : List (Nat × gV)) : Prop := match gto cd h with
  | e :: rest => go rest (ls.filter (fun q => !(q.1 == e.2.2.2.1) && !(q.1 + 1 == e.2.2.2.1 && gcat q.2 == 2)))
  | [] => False
def gsw (x : Int32) (lo : Int) (ts : List Nat) (d : Nat) (k : Nat → Prop) : Prop := (∀ i : Nat, ∀ t : Nat, ts[i]? = some t → x.toInt = lo + i → k t) ∧ ((x.toInt < lo ∨ lo + ts.length ≤ x.toInt) → k d)
section GM
variable (C : Nat → List gV → gI → gJ → gB → gQt → gXt → Prop) (cd : List gE) (hs : gH) (mc ms L : Nat) (xs : Nat → Int32) (bo : Bool) (Q : gQt) (X : gXt)
/-- the receiver is of the kind that the call wants -/
def gkd (k : Nat) (args : List gV) : Bool := match k with
  | 0 => true
  | _ => match args with
    | .inr q :: _ => Nat.beq q.1 k
    | _ => false
/-- a call -/
def gcal (e : gE) (rest : List gE) (go : List gE → gM) : gM := fun ls st I J B c w =>
  match Nat.ble (gsum (st.drop (e.2.2.2.2.1 % 16))) 8 && (gkd (e.2.2.2.2.1 / 16) (st.take (e.2.2.2.2.1 % 16)).reverse && Nat.beq (st.take (e.2.2.2.2.1 % 16)).length (e.2.2.2.2.1 % 16)), e.2.2.2.2.2 with
  | true, .inr (tag, m1, m2) =>
    (fun (body : Prop) => match m1 with
      | 0 => body
      | _ => (c + m1 ≤ mc ∧ w + m2 ≤ ms) ∧ body)
    (C e.2.2.2.1 (st.take (e.2.2.2.2.1 % 16)).reverse I J B
      (fun v I' J' B' => match tag with
        | 0 => go rest ls (st.drop (e.2.2.2.2.1 % 16)) I' J' B' (c + m1) (w + m2)
        | 1 => gvi v fun x => go rest ls (.inl (.int x) :: st.drop (e.2.2.2.2.1 % 16)) I' J' B' (c + m1) (w + m2)
        | 2 => gvl v fun x => go rest ls (.inl (.long x) :: st.drop (e.2.2.2.2.1 % 16)) I' J' B' (c + m1) (w + m2)
        | 3 => gvd v fun x => go rest ls (.inl (.double x) :: st.drop (e.2.2.2.2.1 % 16)) I' J' B' (c + m1) (w + m2)
        | _ => gvn v (go rest ls (.inl .null :: st.drop (e.2.2.2.2.1 % 16)) I' J' B' (c + m1) (w + m2)) fun r => go rest ls (.inr r :: st.drop (e.2.2.2.2.1 % 16)) I' J' B' (c + m1) (w + m2))
      (match hs with
        | [] => X
        | _ => fun k I' J' B' => gx3 k
          (match ghf hs e.1 0 with
            | some h => ghg cd h (fun r ls' => go r ls' [] I' J' B' (c + m1) (w + m2)) ls
            | none => X 0 I' J' B')
          (match ghf hs e.1 1 with
            | some h => ghg cd h (fun r ls' => go r ls' [] I' J' B' (c + m1) (w + m2)) ls
            | none => X 1 I' J' B')
          (match ghf hs e.1 2 with
            | some h => ghg cd h (fun r ls' => go r ls' [] I' J' B' (c + m1) (w + m2)) ls
            | none => X 2 I' J' B')))
  | _, _ => False
def gbr (p : Prop) (rest : List gE) (a : Nat) (go : List gE → Prop) : Prop := (p → go (gto cd a)) ∧ (¬ p → go rest)
def gbn (p : Prop) (rest : List gE) (a : Nat) (go : List gE → Prop) : Prop := (¬ p → go (gto cd a)) ∧ (p → go rest)
/-- what a row does -/
def gsem (e : gE) (rest : List gE) (go : List gE → gM) : gM := fun ls st I J B c w =>
  let a := e.2.2.2.1
  let b := e.2.2.2.2.1
  let v := e.2.2.2.2.2
  match e.2.2.1 with
  | .iconst _ => gvi v fun x => go rest ls (.inl (.int x) :: st) I J B c w
  | .bipush _ => gvi v fun x => go rest ls (.inl (.int x) :: st) I J B c w
  | .sipush _ => gvi v fun x => go rest ls (.inl (.int x) :: st) I J B c w
  | .lconst _ => gvl v fun x => go rest ls (.inl (.long x) :: st) I J B c w
  | .dconst _ => go rest ls (.inl (.double FP.dconst0) :: st) I J B c w
  | .ldc _ => match v with
    | .inl (.int x) => go rest ls (.inl (.int x) :: st) I J B c w
    | _ => gvr v fun q => go rest ls (.inr q :: st) I J B c w
  | .ldc_w _ => match v with
    | .inl (.int x) => go rest ls (.inl (.int x) :: st) I J B c w
    | _ => False
  | .ldc2_w _ => gvl v fun x => go rest ls (.inl (.long x) :: st) I J B c w
  | .aconst_null => go rest ls (.inl .null :: st) I J B c w
  | .getstatic _ => go rest ls (.inr (1, a, 0) :: st) I J B c w
  | .iload_n _ => gldv ls a fun y => gvi y fun x => go rest ls (.inl (.int x) :: st) I J B c w
  | .iload _ => gldv ls a fun y => gvi y fun x => go rest ls (.inl (.int x) :: st) I J B c w
  | .lload_n _ => gldv ls a fun y => gvl y fun x => go rest ls (.inl (.long x) :: st) I J B c w
  | .lload _ => gldv ls a fun y => gvl y fun x => go rest ls (.inl (.long x) :: st) I J B c w
  | .dload _ => gldv ls a fun y => gvd y fun x => go rest ls (.inl (.double x) :: st) I J B c w
  | .aload_n _ => gldv ls a fun y => gvn y (go rest ls (.inl .null :: st) I J B c w) fun x => go rest ls (.inr x :: st) I J B c w
  | .aload _ => gldv ls a fun y => gvn y (go rest ls (.inl .null :: st) I J B c w) fun x => go rest ls (.inr x :: st) I J B c w
  | .istore_n _ => gpi st fun x r => go rest (gset1 ls a (.inl (.int x))) r I J B c w
  | .istore _ => gpi st fun x r => go rest (gset1 ls a (.inl (.int x))) r I J B c w
  | .astore_n _ => gtop st fun y r => gvn y (go rest (gset1 ls a (.inl .null)) r I J B c w) fun x => go rest (gset1 ls a (.inr x)) r I J B c w
  | .astore _ => gtop st fun y r => gvn y (go rest (gset1 ls a (.inl .null)) r I J B c w) fun x => go rest (gset1 ls a (.inr x)) r I J B c w
  | .lstore_n _ => gpl st fun x r => go rest (gset2 ls a (.inl (.long x))) r I J B c w
  | .lstore _ => gpl st fun x r => go rest (gset2 ls a (.inl (.long x))) r I J B c w
  | .dstore _ => gpd st fun x r => go rest (gset2 ls a (.inl (.double x))) r I J B c w
  | .iinc _ _ => gldv ls a fun y => gvi y fun x => gvi v fun z => go rest (gset1 ls a (.inl (.int (x + z)))) st I J B c w
  | .iadd => gpi st fun y r => gpi r fun x r => go rest ls (.inl (.int (x + y)) :: r) I J B c w
  | .isub => gpi st fun y r => gpi r fun x r => go rest ls (.inl (.int (x - y)) :: r) I J B c w
  | .imul => gpi st fun y r => gpi r fun x r => go rest ls (.inl (.int (x * y)) :: r) I J B c w
  | .iand => gpi st fun y r => gpi r fun x r => go rest ls (.inl (.int (x &&& y)) :: r) I J B c w
  | .ior => gpi st fun y r => gpi r fun x r => go rest ls (.inl (.int (x ||| y)) :: r) I J B c w
  | .ixor => gpi st fun y r => gpi r fun x r => go rest ls (.inl (.int (x ^^^ y)) :: r) I J B c w
  | .ishl => gpi st fun y r => gpi r fun x r => go rest ls (.inl (.int (x <<< (y &&& 31))) :: r) I J B c w
  | .ishr => gpi st fun y r => gpi r fun x r => go rest ls (.inl (.int (x >>> (y &&& 31))) :: r) I J B c w
  | .idiv => gpi st fun y r => gpi r fun x r => (¬ y = 0) ∧ go rest ls (.inl (.int (x / y)) :: r) I J B c w
  | .irem => gpi st fun y r => gpi r fun x r => (¬ y = 0) ∧ go rest ls (.inl (.int (x - x / y * y)) :: r) I J B c w
  | .iushr => gpi st fun y r => gpi r fun x r => go rest ls (.inl (.int (x.toUInt32 >>> (y.toUInt32 &&& Int32.toUInt32 31)).toInt32) :: r) I J B c w
  | .ineg => gpi st fun x r => go rest ls (.inl (.int (-x)) :: r) I J B c w
  | .ladd => gpl st fun y r => gpl r fun x r => go rest ls (.inl (.long (x + y)) :: r) I J B c w
  | .lsub => gpl st fun y r => gpl r fun x r => go rest ls (.inl (.long (x - y)) :: r) I J B c w
  | .lmul => gpl st fun y r => gpl r fun x r => go rest ls (.inl (.long (x * y)) :: r) I J B c w
  | .ldiv => gpl st fun y r => gpl r fun x r => (¬ y = 0) ∧ go rest ls (.inl (.long (x / y)) :: r) I J B c w
  | .lrem => gpl st fun y r => gpl r fun x r => (¬ y = 0) ∧ go rest ls (.inl (.long (x - x / y * y)) :: r) I J B c w
  | .lneg => gpl st fun x r => go rest ls (.inl (.long (-x)) :: r) I J B c w
  | .lcmp => gpl st fun y r => gpl r fun x r => go rest ls (.inl (.int (lg_cmp x y)) :: r) I J B c w
  | .i2l => gpi st fun x r => go rest ls (.inl (.long x.toInt64) :: r) I J B c w
  | .l2i => gpl st fun x r => go rest ls (.inl (.int x.toInt32) :: r) I J B c w
  | .i2b => gpi st fun x r => go rest ls (.inl (.int x.toInt8.toInt32) :: r) I J B c w
  | .l2d => gpl st fun x r => go rest ls (.inl (.double (FP.l2d x)) :: r) I J B c w
  | .ddiv => gpd st fun y r => gpd r fun x r => vf_n64 (FP.ddiv x y) ∧ go rest ls (.inl (.double (FP.ddiv x y)) :: r) I J B c w
  | .dcmp o => gpd st fun y r => gpd r fun x r => go rest ls (.inl (.int (Op.cmpValue (FP.dcmp x y) o)) :: r) I J B c w
  | .pop => gtop st fun y r => match gcat y with
    | 1 => go rest ls r I J B c w
    | _ => False
  | .dup => gtop st fun y r => match gcat y with
    | 1 => go rest ls (y :: y :: r) I J B c w
    | _ => False
  | .dup2 => gtop st fun y r => match gcat y with
    | 2 => go rest ls (y :: y :: r) I J B c w
    | _ => gtop r fun z r => match gcat z with
      | 1 => go rest ls (y :: z :: y :: z :: r) I J B c w
      | _ => False
  | .ifCond .eq _ => gpi st fun x r => gbr cd (x = 0) rest a fun r' => go r' ls r I J B c w
  | .ifCond .ne _ => gpi st fun x r => gbn cd (x = 0) rest a fun r' => go r' ls r I J B c w
  | .ifCond .lt _ => gpi st fun x r => gbr cd (x < 0) rest a fun r' => go r' ls r I J B c w
  | .ifCond .ge _ => gpi st fun x r => gbr cd (0 ≤ x) rest a fun r' => go r' ls r I J B c w
  | .ifCond .gt _ => gpi st fun x r => gbr cd (0 < x) rest a fun r' => go r' ls r I J B c w
  | .ifCond .le _ => gpi st fun x r => gbr cd (x ≤ 0) rest a fun r' => go r' ls r I J B c w
  | .if_icmp .eq _ => gpi st fun y r => gpi r fun x r => gbr cd (x = y) rest a fun r' => go r' ls r I J B c w
  | .if_icmp .ne _ => gpi st fun y r => gpi r fun x r => gbn cd (x = y) rest a fun r' => go r' ls r I J B c w
  | .if_icmp .lt _ => gpi st fun y r => gpi r fun x r => gbr cd (x < y) rest a fun r' => go r' ls r I J B c w
  | .if_icmp .ge _ => gpi st fun y r => gpi r fun x r => gbr cd (y ≤ x) rest a fun r' => go r' ls r I J B c w
  | .if_icmp .gt _ => gpi st fun y r => gpi r fun x r => gbr cd (y < x) rest a fun r' => go r' ls r I J B c w
  | .if_icmp .le _ => gpi st fun y r => gpi r fun x r => gbr cd (x ≤ y) rest a fun r' => go r' ls r I J B c w
  | .goto _ => go (gto cd a) ls st I J B c w
  | .ifnull _ => gtop st fun y r => gvn y (go (gto cd a) ls r I J B c w) fun _ => go rest ls r I J B c w
  | .ifnonnull _ => gtop st fun y r => gvn y (go rest ls r I J B c w) fun _ => go (gto cd a) ls r I J B c w
  | .tableswitch d lo _ offs => gpi st fun x r => gsw x lo (offs.toList.map (fun o => ((e.1 : Int) + o).toNat)) ((e.1 : Int) + d).toNat fun t => go (gto cd t) ls r I J B c w
  | .iaload => gpi st fun i r => gpr r fun q r => gial L xs I q i fun x => go rest ls (.inl (.int x) :: r) I J B c w
  | .baload => gpi st fun i r => gpr r fun q r => gbal I q i fun x => go rest ls (.inl (.int x) :: r) I J B c w
  | .laload => gpi st fun i r => gpr r fun q r => glal J q i fun x => go rest ls (.inl (.long x) :: r) I J B c w
  | .daload => gpi st fun i r => gpr r fun q r => gdal J q i fun x => go rest ls (.inl (.double x) :: r) I J B c w
  | .aaload => gpi st fun i r => gpr r fun q r => gaal B q i fun x => go rest ls (x :: r) I J B c w
  | .iastore => gpi st fun x r => gpi r fun i r => gpr r fun q r => gias I q i x fun I' => go rest ls r I' J B c w
  | .bastore => gpi st fun x r => gpi r fun i r => gpr r fun q r => gbas I q i x fun I' => go rest ls r I' J B c w
  | .lastore => gpl st fun x r => gpi r fun i r => gpr r fun q r => glas J q i x fun J' => go rest ls r I J' B c w
  | .dastore => gpd st fun x r => gpi r fun i r => gpr r fun q r => gdas J q i x fun J' => go rest ls r I J' B c w
  | .aastore => gpr st fun x r => gpi r fun i r => gpr r fun q r => gaas B q x i fun B' => go rest ls r I J B' c w
  | .arraylength => gpr st fun q r => gln L q fun x => go rest ls (.inl (.int x) :: r) I J B c w
  | .getfield _ => gpr st fun q r => gfg I J q a b fun x => go rest ls (x :: r) I J B c w
  | .putfield _ => gtop st fun x r => gpr r fun q r => gfp I J q a b x fun I' J' => go rest ls r I' J' B c w
  | .ireturn => gpi st fun x r => gno r (match bo with
    | true => (x = 0 ∨ x = 1) ∧ Q (.inl (.int x)) I J B
    | false => Q (.inl (.int x)) I J B)
  | .lreturn => gpl st fun x r => gno r (Q (.inl (.long x)) I J B)
  | .dreturn => gpd st fun x r => gno r (Q (.inl (.double x)) I J B)
  | .areturn => gtop st fun x r => gno r (gvn x (Q x I J B) fun _ => Q x I J B)
  | .return_ => gno st (Q (.inl .null) I J B)
  | .new _ => match a with
    | 1 => gno st ((c + 1 ≤ mc ∧ w + 6 ≤ ms) ∧ X b I J B)
    | _ => Nat.ble (gsum st) 6 = true ∧ ∃ m, (3 ≤ m ∧ m ≤ 12 ∧ B m = false) ∧ (c + 7 ≤ mc ∧ w + 142 ≤ ms) ∧ go (rest.drop 2) ls (.inr (6, m, 0) :: st) (gnwI I m) (gnwJ J m) (gUB B m) (c + 7) (w + 142)
  | .newarray _ => gpi st fun x r => x = Int32.ofNat b ∧ Nat.ble (gsum r) 6 = true ∧ ∃ m, (100 ≤ m ∧ (a, m, 0) ∈ gall ∧ B m = false) ∧ (c + 1 ≤ mc ∧ w + b ≤ ms) ∧ go rest ls (.inr (a, m, 0) :: r) (gnaI I a m) J (gUB B m) (c + 1) (w + b)
  | .invokevirtual _ => gcal C cd hs mc ms X e rest go ls st I J B c w
  | .invokestatic _ => match b with
    | 9 => gpi st fun n r => gpi r fun dp r => gpr r fun d r => gpi r fun sp r => gpr r fun s r => match Nat.ble (gsum r) 8 with
      | true => gcpy I J s d sp dp n fun I' J' => go rest ls r I' J' B c w
      | false => False
    | _ => gcal C cd hs mc ms X e rest go ls st I J B c w
  | _ => False
/-- on to a row, or stop where a cut stands, with the places that live there -/
def gcut (ct : List (Nat × List Nat)) (K : Nat → gM) (cur : List gE) (f : gM) : gM := match cur with
  | [] => fun _ _ _ _ _ _ _ => False
  | e :: _ => match ct.lookup e.1 with
    | some live => fun ls st I J B c w => K e.1 (gpick live ls) st I J B c w
    | none => f
def gstp (ct : List (Nat × List Nat)) (K : Nat → gM) : Nat → List gE → gM
  | 0, _ => fun _ _ _ _ _ _ _ => False
  | _ + 1, [] => fun _ _ _ _ _ _ _ => False
  | n + 1, e :: rest => gsem C cd hs mc ms L xs bo Q X e rest (fun cur => gcut ct K cur (gstp ct K n cur))
end GM
