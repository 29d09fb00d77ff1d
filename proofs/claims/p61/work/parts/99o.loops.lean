/-! ===== the law's system: its loops (by wip/p61/p99o.py) ===== -/
theorem kw_163 : (Cond.fieldLink "ToeplitzLabLaw$Lab" 36 "ToeplitzLabLaw$Lab" "size" "I") ∈ gBig := gBig_of (gpc3 (List.mem_of_getElem? (i := 77) rfl)) rfl
theorem kw_164 : (Cond.fieldLink "ToeplitzLabLaw$Lab" 20 "ToeplitzLabLaw$Lab" "diagonal" "[I") ∈ gBig := gBig_of (gpc3 (List.mem_of_getElem? (i := 71) rfl)) rfl
theorem kw_165 : (Cond.fieldLink "ToeplitzLabLaw$Lab" 14 "ToeplitzLabLaw$Lab" "text" "Ljava/lang/StringBuilder;") ∈ gBig := gBig_of (gpc3 (List.mem_of_getElem? (i := 69) rfl)) rfl
theorem kw_166 : (Cond.fieldLink "ToeplitzLabLaw$Lab" 24 "ToeplitzLabLaw$Lab" "side" "[I") ∈ gBig := gBig_of (gpc3 (List.mem_of_getElem? (i := 73) rfl)) rfl
theorem kw_167 : (Cond.fieldLink "ToeplitzLabLaw$Lab" 27 "ToeplitzLabLaw$Lab" "probe" "[I") ∈ gBig := gBig_of (gpc3 (List.mem_of_getElem? (i := 75) rfl)) rfl
theorem upd_at {f : Nat → Int32} {k : Nat} {x : Int32} : upd f k x k = x := if_pos rfl
theorem upd_ne {f : Nat → Int32} {k j : Nat} {x : Int32} (h : j ≠ k) : upd f k x j = f j := if_neg h
def dvf (f : Nat → Int32) : Int → Int := fun k => (f (k + 6).toNat).toInt
def svf (f : Nat → Int32) : Nat → Int := fun i => (f i).toInt
def Bd9 (f : Nat → Int32) : Prop := ∀ i, -9 ≤ (f i).toInt ∧ (f i).toInt ≤ 9
theorem Bd9.upd {f : Nat → Int32} {i : Nat} {v : Int} (h : Bd9 f) (h1 : -9 ≤ v) (h2 : v ≤ 9) : Bd9 (upd f i (gi v)) := fun j => by
  by_cases e : j = i
  · rw [e, upd_at, gi_t (by omega) (by omega)]; exact ⟨h1, h2⟩
  · rw [upd_ne e]; exact h j
theorem sgL_len {v : Int} : (sgL v).length ≤ 2 := by
  unfold sgL
  split
  · exact Nat.le_refl 2
  · exact (by decide : (1 : Nat) ≤ 2)
theorem dLn_eq {t : List Int} {k v : Int} {l : List Int} : t ++ kCh 2 ++ sgL k ++ [((32 : Nat) : Int)] ++ sgL v ++ l = t ++ dLn k v l := by
  rw [show kCh 2 = 59 :: (wd 2 ++ [32]) from rfl]
  unfold dLn
  simp only [List.append_assoc, List.cons_append, List.nil_append]
  rfl
theorem pLn_eq {t : List Int} {m q i : Nat} {v : Int} {l : List Int} (hm : kCh q = 59 :: (wd m ++ [32])) (hi : i < 10) : t ++ kCh q ++ dgL i ++ [((32 : Nat) : Int)] ++ sgL v ++ l = t ++ pLn m i v l := by
  rw [hm, show dgL i = [((48 + i : Nat) : Int)] from if_pos hi]
  unfold pLn
  simp only [List.append_assoc, List.cons_append, List.nil_append, Int.natCast_add]
  rfl
section LL
variable {E : gEn} {K : kEn} {p : Program} {e : Env} {s : State} {mI : MethodId} {args : Array Value} {below : List Frame} {meth : Method} {cc : Code} {Qq : State → Prop} {d lb tb da sa pa r r1 r2 : Nat} {N pr : Int}

set_option maxRecDepth 100000 in
/-- the diagonals -/
theorem lw_diag {f1 f2 : Nat → Int32} (hC : kC E K yX9_init cX9_init 4 none p s mI args meth cc) (hgl : gL E ≤ 100000) (hN5 : N ≤ 5) (hr1 : r ≠ r1) (hr2 : r ≠ r2) :
    ∀ (dn : Nat) (k : Int) (ws : va_W) (H : Heap) (locs : List Loc) (LS : Array Slot) (t : List Int) (fd : Nat → Int32) (a c w : Nat), k + dn = N → 1 - N ≤ k → a + 2 * dn ≤ 40 → t.length + 15 * dn ≤ 160 → c + 6 * dn ≤ 70 → w + 4200 * dn ≤ 41000 → Bd9 fd → Lw E ws d a lb [.ref tb, .ref da, .ref sa, .ref pa, .int (gi N), .int (gi pr)] tb t [(r, da, 13, fd), (r1, sa, 7, f1), (r2, pa, 7, f2)] → lv_has LS 4 [(2, .int (gi k)), (0, .ref lb), (1, .ref d)] → va_P (gD E) vwCl ws H → va_D (gA E) ws → va_S (gA E) s.heap H locs →
      (∀ (ws' : va_W) (H' : Heap) (locs' : List Loc) (LS' : Array Slot) (t' : List Int) (fd' : Nat → Int32) (a' c' w' : Nat), a' ≤ a + 2 * dn → t'.length ≤ t.length + 15 * dn → c' ≤ c + 6 * dn → w' ≤ w + 4200 * dn → Bd9 fd' → Lw E ws' d a' lb [.ref tb, .ref da, .ref sa, .ref pa, .int (gi N), .int (gi pr)] tb t' [(r, da, 13, fd'), (r1, sa, 7, f1), (r2, pa, 7, f2)] → (∀ l, t' ++ l = t ++ dTx (dvf fd') dn k l) → (∀ i, i < (k + 6).toNat → fd' i = fd i) → lv_has LS' 4 [(0, .ref lb), (1, .ref d)] → va_P (gD E) vwCl ws' H' → va_D (gA E) ws' → va_S (gA E) s.heap H' locs' → W p (gl E) e kRI s mI args below meth cc H' locs' c' w' Qq (F0 mI 169 LS' [])) →
      W p (gl E) e kRI s mI args below meth cc H locs c w Qq (F0 mI 97 LS [])
  | 0, k, ws, H, locs, LS, t, fd, a, c, w, hk, hk1, ha, ht, hcc, hww, hB, hLw, hl, hP, hD, hS, kk => by
    have hC0 := hC
    obtain ⟨hx, hb, hr, hml, hown, htk, hlk, hF, hnm⟩ := hC
    have hts : ∀ w ∈ gBig, w.before args s = true := fun w h => htk w (kBig_g h)
    have hE := hF.1
    have hK := hE.1
    refine lv_iload_n hx hb (show decode cX9_init 97 = .ok (.iload_n 2, 1) by decide +kernel) rfl (lv_at hl 0 rfl) ?_
    refine lv_aload_n hx hb (show decode cX9_init 98 = .ok (.aload_n 0, 1) by decide +kernel) rfl (lv_at hl 1 rfl) ?_
    refine va_get (D := gD E) (ci := 9) (C := RX9) (T := TX9) (N := 6) hx hb hts (fun w hw => gBig_of (guw_9 w hw) (gug_9 w hw)) hown hK hP 1 hLw.2.1 rfl 4 (by decide) (hts _ kw_163) (fun _ h9 => h9) rfl (show decode cX9_init 99 = .ok (.getfield 36, 3) by decide +kernel) ?_
    refine lv_icmp_ge hx hb (show decode cX9_init 102 = .ok (.if_icmp .ge 67, 3) by decide +kernel) (tgt := 169) rfl (fun _ => ?_) (fun z => absurd (by rw [gi_le (by omega) (by omega) (by omega) (by omega)]; omega) z)
    exact kk ws H locs LS t fd a c w (by omega) (by omega) (by omega) (by omega) hB hLw (fun _ => rfl) (fun _ _ => rfl) (lv_sub hl [1, 2] rfl) hP hD hS
  | dn + 1, k, ws, H, locs, LS, t, fd, a, c, w, hk, hk1, ha, ht, hcc, hww, hB, hLw, hl, hP, hD, hS, kk => by
    have hC0 := hC
    obtain ⟨hx, hb, hr, hml, hown, htk, hlk, hF, hnm⟩ := hC
    have hts : ∀ w ∈ gBig, w.before args s = true := fun w h => htk w (kBig_g h)
    have hE := hF.1
    have hK := hE.1
    have tail : ∀ (v : Int) (ws : va_W) (H : Heap) (locs : List Loc) (LS : Array Slot) (t1 : List Int) (a1 c1 w1 : Nat), -4 ≤ v → v ≤ 4 → a1 ≤ a + 2 → t1.length ≤ t.length + 15 → c1 ≤ c + 6 → w1 ≤ w + 4200 → (∀ l, t1 ++ l = t ++ (if v = 0 then l else dLn k v l)) → Lw E ws d a1 lb [.ref tb, .ref da, .ref sa, .ref pa, .int (gi N), .int (gi pr)] tb t1 [(r, da, 13, (upd fd (k + 6).toNat (gi v))), (r1, sa, 7, f1), (r2, pa, 7, f2)] → lv_has LS 4 [(3, .int (gi v)), (2, .int (gi k)), (0, .ref lb), (1, .ref d)] → va_P (gD E) vwCl ws H → va_D (gA E) ws → va_S (gA E) s.heap H locs → W p (gl E) e kRI s mI args below meth cc H locs c1 w1 Qq (F0 mI 163 LS []) := by
      intro v ws H locs LS t1 a1 c1 w1 hv1 hv2 ha1 ht1 hc1 hw1 het hLw hl hP hD hS
      refine lv_iinc (k := 1) hx hb (show decode cX9_init 163 = .ok (.iinc 2 1, 3) by decide +kernel) hl rfl (gi_add k 1) (by decide) rfl (fun LS hl => ?_)
      refine lv_goto hx hb (show decode cX9_init 166 = .ok (.goto (-69), 3) by decide +kernel) (tgt := 97) rfl ?_
      have hl : lv_has LS 4 [(2, .int (gi (k + 1))), (3, .int (gi v)), (0, .ref lb), (1, .ref d)] := hl
      refine lw_diag hC0 hgl hN5 hr1 hr2 dn (k + 1) ws H locs LS t1 (upd fd (k + 6).toNat (gi v)) a1 c1 w1 (by omega) (by omega) (by omega) (by omega) (by omega) (by omega) (hB.upd (by omega) (by omega)) hLw (lv_sub hl [0, 2, 3] rfl) hP hD hS ?_
      intro ws' H' locs' LS' t' fd' a' c' w' q1 q2 q3 q4 q5 q6 q7 q8 q9
      refine kk ws' H' locs' LS' t' fd' a' c' w' (by omega) (by omega) (by omega) (by omega) q5 q6 (fun l => ?_) (fun i hi => ?_) q9
      · have ev : dvf fd' k = v := by
          unfold dvf
          rw [q8 _ (by omega), upd_at, gi_t (by omega) (by omega)]
        rw [q7, het, show dTx (dvf fd') (dn + 1) k l = if dvf fd' k = 0 then dTx (dvf fd') dn (k + 1) l else dLn k (dvf fd' k) (dTx (dvf fd') dn (k + 1) l) from rfl, ev]
      · rw [q8 i (by omega), upd_ne (by omega)]
    have body : ∀ (v : Int) (ws : va_W) (H : Heap) (locs : List Loc) (a1 : Nat), -4 ≤ v → v ≤ 4 → a1 ≤ a + 2 → Lw E ws d a1 lb [.ref tb, .ref da, .ref sa, .ref pa, .int (gi N), .int (gi pr)] tb t [(r, da, 13, fd), (r1, sa, 7, f1), (r2, pa, 7, f2)] → va_P (gD E) vwCl ws H → va_D (gA E) ws → va_S (gA E) s.heap H locs → W p (gl E) e kRI s mI args below meth cc H locs c w Qq (F0 mI 125 LS [.int (gi v)]) := by
      intro v ws H locs a1 hv1 hv2 ha1 hLw hP hD hS
      refine lv_istore_n hx hb (show decode cX9_init 125 = .ok (.istore_n 3, 1) by decide +kernel) rfl hl (by decide) rfl (fun LS hl => ?_)
      have hl : lv_has LS 4 [(3, .int (gi v)), (2, .int (gi k)), (0, .ref lb), (1, .ref d)] := hl
      refine lv_aload_n hx hb (show decode cX9_init 126 = .ok (.aload_n 0, 1) by decide +kernel) rfl (lv_at hl 2 rfl) ?_
      refine va_get (D := gD E) (ci := 9) (C := RX9) (T := TX9) (N := 6) hx hb hts (fun w hw => gBig_of (guw_9 w hw) (gug_9 w hw)) hown hK hP 1 hLw.2.1 rfl 1 (by decide) (hts _ kw_164) (fun _ h9 => h9) rfl (show decode cX9_init 127 = .ok (.getfield 20, 3) by decide +kernel) ?_
      refine lv_iload_n hx hb (show decode cX9_init 130 = .ok (.iload_n 2, 1) by decide +kernel) rfl (lv_at hl 1 rfl) ?_
      refine lv_bipush (v := gi (6)) hx hb (show decode cX9_init 131 = .ok (.bipush 6, 2) by decide +kernel) (by decide) ?_
      refine lv_iadd hx hb (show decode cX9_init 133 = .ok (.iadd, 1) by decide +kernel) ?_
      rw [gi_add]
      refine lv_iload_n hx hb (show decode cX9_init 134 = .ok (.iload_n 3, 1) by decide +kernel) rfl (lv_at hl 0 rfl) ?_
      have hia : _ = some (da, (.inl (gca E 0, 13, .inl fd) : va_E)) := (hLw.2.2.2 (r, da, 13, fd) (by simp)).2
      refine va_iast hx hb hK hP hD hS r 0 hia rfl (gvp (by omega) (by omega) (by omega)) (show decode cX9_init 135 = .ok (.iastore, 1) by decide +kernel) (fun H locs hP hD hS => ?_)
      rw [gi_c (by omega) (by omega)] at hP hD
      have hLw := hLw.ia (l1 := []) (x := (r, da, 13, fd)) (by simp; exact ⟨Ne.symm hr1, Ne.symm hr2⟩) (upd fd (k + 6).toNat (gi v))
      have hLw : Lw E _ d a1 lb [.ref tb, .ref da, .ref sa, .ref pa, .int (gi N), .int (gi pr)] tb t [(r, da, 13, (upd fd (k + 6).toNat (gi v))), (r1, sa, 7, f1), (r2, pa, 7, f2)] := hLw
      refine lv_iload_n hx hb (show decode cX9_init 136 = .ok (.iload_n 3, 1) by decide +kernel) rfl (lv_at hl 0 rfl) ?_
      refine lv_if_eq hx hb (show decode cX9_init 137 = .ok (.ifCond .eq 26, 3) by decide +kernel) (tgt := 163) rfl (fun z => ?_) (fun z => ?_)
      · rw [show (0 : Int32) = gi 0 from rfl, gi_eq (by omega) (by omega) (by omega) (by omega)] at z
        exact tail v _ H locs LS t a1 c w hv1 hv2 ha1 (by omega) (by omega) (by omega) (fun l => by rw [if_pos z]) hLw hl hP hD hS
      · rw [show (0 : Int32) = gi 0 from rfl, gi_eq (by omega) (by omega) (by omega) (by omega)] at z
        have s1 := @sgL_len k
        have s2 := @sgL_len v
        have s3 : (kCh 2).length = 10 := rfl
        have s6 : [((32 : Nat) : Int)].length = 1 := rfl
        refine lv_aload_n hx hb (show decode cX9_init 140 = .ok (.aload_n 0, 1) by decide +kernel) rfl (lv_at hl 2 rfl) ?_
        refine va_get (D := gD E) (ci := 9) (C := RX9) (T := TX9) (N := 6) hx hb hts (fun w hw => gBig_of (guw_9 w hw) (gug_9 w hw)) hown hK hP 1 hLw.2.1 rfl 0 (by decide) (hts _ kw_165) (fun _ h9 => h9) rfl (show decode cX9_init 141 = .ok (.getfield 14, 3) by decide +kernel) ?_
        refine va_ldcS hx hb hown (hF.2.2.1.1.1 (57, ";diagonal ", 2) (by decide)) (show decode cX9_init 144 = .ok (.ldc 57, 2) by decide +kernel) ?_
        refine lw_S (k := 2) hC0 hLw (by omega) (by decide) (show decode cX9_init 146 = .ok (.invokevirtual 54, 3) by decide +kernel) (by omega) (by omega) (Nat.le_of_ble_eq_true rfl) hl.1 hP hD hS (fun ws H locs hLw hP hD hS => ?_)
        refine lv_iload_n hx hb (show decode cX9_init 149 = .ok (.iload_n 2, 1) by decide +kernel) rfl (lv_at hl 1 rfl) ?_
        refine lw_N (v := k) hC0 hLw (by simp only [List.length_append]; omega) (by omega) (by omega) (show decode cX9_init 150 = .ok (.invokestatic 59, 3) by decide +kernel) (by omega) (by omega) (Nat.le_of_ble_eq_true rfl) hl.1 hP hD hS (fun ws H locs hLw hP hD hS => ?_)
        refine lv_bipush (v := gi (32)) hx hb (show decode cX9_init 153 = .ok (.bipush 32, 2) by decide +kernel) (by decide) ?_
        refine lw_C (x := 32) hC0 hLw (by simp only [List.length_append]; omega) (by decide) (show decode cX9_init 155 = .ok (.invokevirtual 63, 3) by decide +kernel) (by omega) (by omega) (Nat.le_of_ble_eq_true rfl) hl.1 hP hD hS (fun ws H locs hLw hP hD hS => ?_)
        refine lv_iload_n hx hb (show decode cX9_init 158 = .ok (.iload_n 3, 1) by decide +kernel) rfl (lv_at hl 0 rfl) ?_
        refine lw_N (v := v) hC0 hLw (by simp only [List.length_append]; omega) (by omega) (by omega) (show decode cX9_init 159 = .ok (.invokestatic 59, 3) by decide +kernel) (by omega) (by omega) (Nat.le_of_ble_eq_true rfl) hl.1 hP hD hS (fun ws H locs hLw hP hD hS => ?_)
        refine lv_pop hx hb (show decode cX9_init 162 = .ok (.pop, 1) by decide +kernel) rfl ?_
        exact tail v _ H locs LS _ a1 _ _ hv1 hv2 ha1 (by simp only [List.length_append]; omega) (by omega) (by omega) (fun l => by rw [if_neg z, dLn_eq]) hLw hl hP hD hS
    refine lv_iload_n hx hb (show decode cX9_init 97 = .ok (.iload_n 2, 1) by decide +kernel) rfl (lv_at hl 0 rfl) ?_
    refine lv_aload_n hx hb (show decode cX9_init 98 = .ok (.aload_n 0, 1) by decide +kernel) rfl (lv_at hl 1 rfl) ?_
    refine va_get (D := gD E) (ci := 9) (C := RX9) (T := TX9) (N := 6) hx hb hts (fun w hw => gBig_of (guw_9 w hw) (gug_9 w hw)) hown hK hP 1 hLw.2.1 rfl 4 (by decide) (hts _ kw_163) (fun _ h9 => h9) rfl (show decode cX9_init 99 = .ok (.getfield 36, 3) by decide +kernel) ?_
    refine lv_icmp_ge hx hb (show decode cX9_init 102 = .ok (.if_icmp .ge 67, 3) by decide +kernel) (tgt := 169) rfl (fun z => by rw [gi_le (by omega) (by omega) (by omega) (by omega)] at z; omega) (fun _ => ?_)
    refine lv_aload_n hx hb (show decode cX9_init 105 = .ok (.aload_n 1, 1) by decide +kernel) rfl (lv_at hl 2 rfl) ?_
    refine lv_iconst (v := gi (0)) hx hb (show decode cX9_init 106 = .ok (.iconst 0, 1) by decide +kernel) (by decide) ?_
    refine lv_iconst (v := gi (2)) hx hb (show decode cX9_init 107 = .ok (.iconst 2, 1) by decide +kernel) (by decide) ?_
    refine lw_D (lo := 0) (hi := 2) hC0 hLw (by omega) (by omega) (by omega) (by omega) hgl (show decode cX9_init 108 = .ok (.invokevirtual 30, 3) by decide +kernel) (by omega) (by omega) (Nat.le_of_ble_eq_true rfl) hl.1 hP hD hS (fun v ws H locs v1 v2 hLw hP hD hS => ?_)
    refine lv_if_ne hx hb (show decode cX9_init 111 = .ok (.ifCond .ne 7, 3) by decide +kernel) (tgt := 118) rfl (fun _ => ?_) (fun _ => ?_)
    · refine lv_aload_n hx hb (show decode cX9_init 118 = .ok (.aload_n 1, 1) by decide +kernel) rfl (lv_at hl 2 rfl) ?_
      refine lv_bipush (v := gi (-4)) hx hb (show decode cX9_init 119 = .ok (.bipush (-4), 2) by decide +kernel) (by decide) ?_
      refine lv_iconst (v := gi (4)) hx hb (show decode cX9_init 121 = .ok (.iconst 4, 1) by decide +kernel) (by decide) ?_
      refine lw_D (lo := (-4)) (hi := 4) hC0 hLw (by omega) (by omega) (by omega) (by omega) hgl (show decode cX9_init 122 = .ok (.invokevirtual 30, 3) by decide +kernel) (by omega) (by omega) (Nat.le_of_ble_eq_true rfl) hl.1 hP hD hS (fun u ws H locs u1 u2 hLw hP hD hS => ?_)
      exact body u ws H locs _ u1 u2 (by omega) hLw hP hD hS
    · refine lv_iconst (v := gi (0)) hx hb (show decode cX9_init 114 = .ok (.iconst 0, 1) by decide +kernel) (by decide) ?_
      refine lv_goto hx hb (show decode cX9_init 115 = .ok (.goto 10, 3) by decide +kernel) (tgt := 125) rfl ?_
      exact body 0 ws H locs _ (by omega) (by omega) (by omega) hLw hP hD hS

set_option maxRecDepth 100000 in
/-- the sides and probes -/
theorem lw_rows {f0 : Nat → Int32} (hC : kC E K yX9_init cX9_init 4 none p s mI args meth cc) (hgl : gL E ≤ 100000) (hN1 : 1 ≤ N) (hN5 : N ≤ 5) (hr1 : r ≠ r1) (hr2 : r ≠ r2) (hr3 : r1 ≠ r2) :
    ∀ (dn i : Nat) (ws : va_W) (H : Heap) (locs : List Loc) (LS : Array Slot) (t : List Int) (f1 f2 : Nat → Int32) (a c w : Nat), (i : Int) + dn = N → a + 2 * dn ≤ 60 → t.length + 21 * dn ≤ 300 → c + 10 * dn ≤ 120 → w + 7000 * dn ≤ 76000 → Bd9 f1 → Bd9 f2 → Lw E ws d a lb [.ref tb, .ref da, .ref sa, .ref pa, .int (gi N), .int (gi pr)] tb t [(r, da, 13, f0), (r1, sa, 7, f1), (r2, pa, 7, f2)] → lv_has LS 4 [(2, .int (gi (i : Int))), (0, .ref lb), (1, .ref d)] → va_P (gD E) vwCl ws H → va_D (gA E) ws → va_S (gA E) s.heap H locs →
      (∀ (ws' : va_W) (H' : Heap) (locs' : List Loc) (LS' : Array Slot) (t' : List Int) (f1' f2' : Nat → Int32) (a' c' w' : Nat), a' ≤ a + 2 * dn → t'.length ≤ t.length + 21 * dn → c' ≤ c + 10 * dn → w' ≤ w + 7000 * dn → Bd9 f1' → Bd9 f2' → Lw E ws' d a' lb [.ref tb, .ref da, .ref sa, .ref pa, .int (gi N), .int (gi pr)] tb t' [(r, da, 13, f0), (r1, sa, 7, f1'), (r2, pa, 7, f2')] → t' = t ++ pTx (svf f1') (svf f2') dn i → (∀ j, j < i → f1' j = f1 j ∧ f2' j = f2 j) → va_P (gD E) vwCl ws' H' → va_D (gA E) ws' → va_S (gA E) s.heap H' locs' → W p (gl E) e kRI s mI args below meth cc H' locs' c' w' Qq (F0 mI 269 LS' [])) →
      W p (gl E) e kRI s mI args below meth cc H locs c w Qq (F0 mI 171 LS [])
  | 0, i, ws, H, locs, LS, t, f1, f2, a, c, w, hk, ha, ht, hcc, hww, hB1, hB2, hLw, hl, hP, hD, hS, kk => by
    have hC0 := hC
    obtain ⟨hx, hb, hr, hml, hown, htk, hlk, hF, hnm⟩ := hC
    have hts : ∀ w ∈ gBig, w.before args s = true := fun w h => htk w (kBig_g h)
    have hE := hF.1
    have hK := hE.1
    refine lv_iload_n hx hb (show decode cX9_init 171 = .ok (.iload_n 2, 1) by decide +kernel) rfl (lv_at hl 0 rfl) ?_
    refine lv_aload_n hx hb (show decode cX9_init 172 = .ok (.aload_n 0, 1) by decide +kernel) rfl (lv_at hl 1 rfl) ?_
    refine va_get (D := gD E) (ci := 9) (C := RX9) (T := TX9) (N := 6) hx hb hts (fun w hw => gBig_of (guw_9 w hw) (gug_9 w hw)) hown hK hP 1 hLw.2.1 rfl 4 (by decide) (hts _ kw_163) (fun _ h9 => h9) rfl (show decode cX9_init 173 = .ok (.getfield 36, 3) by decide +kernel) ?_
    refine lv_icmp_ge hx hb (show decode cX9_init 176 = .ok (.if_icmp .ge 93, 3) by decide +kernel) (tgt := 269) rfl (fun _ => ?_) (fun z => absurd (by rw [gi_le (by omega) (by omega) (by omega) (by omega)]; omega) z)
    exact kk ws H locs LS t f1 f2 a c w (by omega) (by omega) (by omega) (by omega) hB1 hB2 hLw (List.append_nil t).symm (fun _ _ => ⟨rfl, rfl⟩) hP hD hS
  | dn + 1, i, ws, H, locs, LS, t, f1, f2, a, c, w, hk, ha, ht, hcc, hww, hB1, hB2, hLw, hl, hP, hD, hS, kk => by
    have hC0 := hC
    obtain ⟨hx, hb, hr, hml, hown, htk, hlk, hF, hnm⟩ := hC
    have hts : ∀ w ∈ gBig, w.before args s = true := fun w h => htk w (kBig_g h)
    have hE := hF.1
    have hK := hE.1
    refine lv_iload_n hx hb (show decode cX9_init 171 = .ok (.iload_n 2, 1) by decide +kernel) rfl (lv_at hl 0 rfl) ?_
    refine lv_aload_n hx hb (show decode cX9_init 172 = .ok (.aload_n 0, 1) by decide +kernel) rfl (lv_at hl 1 rfl) ?_
    refine va_get (D := gD E) (ci := 9) (C := RX9) (T := TX9) (N := 6) hx hb hts (fun w hw => gBig_of (guw_9 w hw) (gug_9 w hw)) hown hK hP 1 hLw.2.1 rfl 4 (by decide) (hts _ kw_163) (fun _ h9 => h9) rfl (show decode cX9_init 173 = .ok (.getfield 36, 3) by decide +kernel) ?_
    refine lv_icmp_ge hx hb (show decode cX9_init 176 = .ok (.if_icmp .ge 93, 3) by decide +kernel) (tgt := 269) rfl (fun z => by rw [gi_le (by omega) (by omega) (by omega) (by omega)] at z; omega) (fun _ => ?_)
    refine lv_aload_n hx hb (show decode cX9_init 179 = .ok (.aload_n 0, 1) by decide +kernel) rfl (lv_at hl 1 rfl) ?_
    refine va_get (D := gD E) (ci := 9) (C := RX9) (T := TX9) (N := 6) hx hb hts (fun w hw => gBig_of (guw_9 w hw) (gug_9 w hw)) hown hK hP 1 hLw.2.1 rfl 2 (by decide) (hts _ kw_166) (fun _ h9 => h9) rfl (show decode cX9_init 180 = .ok (.getfield 24, 3) by decide +kernel) ?_
    refine lv_iload_n hx hb (show decode cX9_init 183 = .ok (.iload_n 2, 1) by decide +kernel) rfl (lv_at hl 0 rfl) ?_
    refine lv_aload_n hx hb (show decode cX9_init 184 = .ok (.aload_n 1, 1) by decide +kernel) rfl (lv_at hl 2 rfl) ?_
    refine lv_bipush (v := gi (-9)) hx hb (show decode cX9_init 185 = .ok (.bipush (-9), 2) by decide +kernel) (by decide) ?_
    refine lv_bipush (v := gi (9)) hx hb (show decode cX9_init 187 = .ok (.bipush 9, 2) by decide +kernel) (by decide) ?_
    refine lw_D (lo := (-9)) (hi := 9) hC0 hLw (by omega) (by omega) (by omega) (by omega) hgl (show decode cX9_init 189 = .ok (.invokevirtual 30, 3) by decide +kernel) (by omega) (by omega) (Nat.le_of_ble_eq_true rfl) hl.1 hP hD hS (fun v ws H locs v1 v2 hLw hP hD hS => ?_)
    have hia : _ = some (sa, (.inl (gca E 0, 7, .inl f1) : va_E)) := (hLw.2.2.2 (r1, sa, 7, f1) (by simp)).2
    refine va_iast hx hb hK hP hD hS r1 0 hia rfl (gvp (by omega) (by omega) (by omega)) (show decode cX9_init 192 = .ok (.iastore, 1) by decide +kernel) (fun H locs hP hD hS => ?_)
    rw [gi_c (by omega) (by omega), Int.toNat_natCast] at hP hD
    have hLw := hLw.ia (l1 := [(r, da, 13, f0)]) (x := (r1, sa, 7, f1)) (by simp; exact ⟨hr1, Ne.symm hr3⟩) (upd f1 i (gi v))
    have hLw : Lw E _ d (a + 1) lb [.ref tb, .ref da, .ref sa, .ref pa, .int (gi N), .int (gi pr)] tb t [(r, da, 13, f0), (r1, sa, 7, (upd f1 i (gi v))), (r2, pa, 7, f2)] := hLw
    refine lv_aload_n hx hb (show decode cX9_init 193 = .ok (.aload_n 0, 1) by decide +kernel) rfl (lv_at hl 1 rfl) ?_
    refine va_get (D := gD E) (ci := 9) (C := RX9) (T := TX9) (N := 6) hx hb hts (fun w hw => gBig_of (guw_9 w hw) (gug_9 w hw)) hown hK hP 1 hLw.2.1 rfl 3 (by decide) (hts _ kw_167) (fun _ h9 => h9) rfl (show decode cX9_init 194 = .ok (.getfield 27, 3) by decide +kernel) ?_
    refine lv_iload_n hx hb (show decode cX9_init 197 = .ok (.iload_n 2, 1) by decide +kernel) rfl (lv_at hl 0 rfl) ?_
    refine lv_aload_n hx hb (show decode cX9_init 198 = .ok (.aload_n 1, 1) by decide +kernel) rfl (lv_at hl 2 rfl) ?_
    refine lv_bipush (v := gi (-9)) hx hb (show decode cX9_init 199 = .ok (.bipush (-9), 2) by decide +kernel) (by decide) ?_
    refine lv_bipush (v := gi (9)) hx hb (show decode cX9_init 201 = .ok (.bipush 9, 2) by decide +kernel) (by decide) ?_
    refine lw_D (lo := (-9)) (hi := 9) hC0 hLw (by omega) (by omega) (by omega) (by omega) hgl (show decode cX9_init 203 = .ok (.invokevirtual 30, 3) by decide +kernel) (by omega) (by omega) (Nat.le_of_ble_eq_true rfl) hl.1 hP hD hS (fun u ws H locs u1 u2 hLw hP hD hS => ?_)
    have hia : _ = some (pa, (.inl (gca E 0, 7, .inl f2) : va_E)) := (hLw.2.2.2 (r2, pa, 7, f2) (by simp)).2
    refine va_iast hx hb hK hP hD hS r2 0 hia rfl (gvp (by omega) (by omega) (by omega)) (show decode cX9_init 206 = .ok (.iastore, 1) by decide +kernel) (fun H locs hP hD hS => ?_)
    rw [gi_c (by omega) (by omega), Int.toNat_natCast] at hP hD
    have hLw := hLw.ia (l1 := [(r, da, 13, f0), (r1, sa, 7, (upd f1 i (gi v)))]) (x := (r2, pa, 7, f2)) (by simp; exact ⟨hr2, hr3⟩) (upd f2 i (gi u))
    have hLw : Lw E _ d (a + 1 + 1) lb [.ref tb, .ref da, .ref sa, .ref pa, .int (gi N), .int (gi pr)] tb t [(r, da, 13, f0), (r1, sa, 7, (upd f1 i (gi v))), (r2, pa, 7, (upd f2 i (gi u)))] := hLw
    have s1 := @sgL_len v
    have s2 := @sgL_len u
    have s3 : (kCh 3).length = 6 := rfl
    have s4 : (kCh 4).length = 7 := rfl
    have s5 : (dgL i).length = 1 := by unfold dgL; rw [if_pos (by omega)]; rfl
    have s6 : [((32 : Nat) : Int)].length = 1 := rfl
    refine lv_aload_n hx hb (show decode cX9_init 207 = .ok (.aload_n 0, 1) by decide +kernel) rfl (lv_at hl 1 rfl) ?_
    refine va_get (D := gD E) (ci := 9) (C := RX9) (T := TX9) (N := 6) hx hb hts (fun w hw => gBig_of (guw_9 w hw) (gug_9 w hw)) hown hK hP 1 hLw.2.1 rfl 0 (by decide) (hts _ kw_165) (fun _ h9 => h9) rfl (show decode cX9_init 208 = .ok (.getfield 14, 3) by decide +kernel) ?_
    refine va_ldcS hx hb hown (hF.2.2.1.1.1 (66, ";side ", 3) (by decide)) (show decode cX9_init 211 = .ok (.ldc 66, 2) by decide +kernel) ?_
    refine lw_S (k := 3) hC0 hLw (by omega) (by decide) (show decode cX9_init 213 = .ok (.invokevirtual 54, 3) by decide +kernel) (by omega) (by omega) (Nat.le_of_ble_eq_true rfl) hl.1 hP hD hS (fun ws H locs hLw hP hD hS => ?_)
    refine lv_iload_n hx hb (show decode cX9_init 216 = .ok (.iload_n 2, 1) by decide +kernel) rfl (lv_at hl 0 rfl) ?_
    refine lw_I (x := i) hC0 hLw (by simp only [List.length_append]; omega) (by omega) (show decode cX9_init 217 = .ok (.invokevirtual 48, 3) by decide +kernel) (by omega) (by omega) (Nat.le_of_ble_eq_true rfl) hl.1 hP hD hS (fun ws H locs hLw hP hD hS => ?_)
    refine lv_bipush (v := gi (32)) hx hb (show decode cX9_init 220 = .ok (.bipush 32, 2) by decide +kernel) (by decide) ?_
    refine lw_C (x := 32) hC0 hLw (by simp only [List.length_append]; omega) (by decide) (show decode cX9_init 222 = .ok (.invokevirtual 63, 3) by decide +kernel) (by omega) (by omega) (Nat.le_of_ble_eq_true rfl) hl.1 hP hD hS (fun ws H locs hLw hP hD hS => ?_)
    refine lv_aload_n hx hb (show decode cX9_init 225 = .ok (.aload_n 0, 1) by decide +kernel) rfl (lv_at hl 1 rfl) ?_
    refine va_get (D := gD E) (ci := 9) (C := RX9) (T := TX9) (N := 6) hx hb hts (fun w hw => gBig_of (guw_9 w hw) (gug_9 w hw)) hown hK hP 1 hLw.2.1 rfl 2 (by decide) (hts _ kw_166) (fun _ h9 => h9) rfl (show decode cX9_init 226 = .ok (.getfield 24, 3) by decide +kernel) ?_
    refine lv_iload_n hx hb (show decode cX9_init 229 = .ok (.iload_n 2, 1) by decide +kernel) rfl (lv_at hl 0 rfl) ?_
    have hia : _ = some (sa, (.inl (gca E 0, 7, .inl (upd f1 i (gi v))) : va_E)) := (hLw.2.2.2 (r1, sa, 7, (upd f1 i (gi v))) (by simp)).2
    refine va_iald hx hb hK hP r1 0 hia rfl (gvp (by omega) (by omega) (by omega)) (show decode cX9_init 230 = .ok (.iaload, 1) by decide +kernel) ?_
    rw [gi_c (by omega) (by omega), Int.toNat_natCast, show (upd f1 i (gi v)) i = gi v from upd_at]
    refine lw_N (v := v) hC0 hLw (by simp only [List.length_append]; omega) (by omega) (by omega) (show decode cX9_init 231 = .ok (.invokestatic 59, 3) by decide +kernel) (by omega) (by omega) (Nat.le_of_ble_eq_true rfl) hl.1 hP hD hS (fun ws H locs hLw hP hD hS => ?_)
    refine lv_pop hx hb (show decode cX9_init 234 = .ok (.pop, 1) by decide +kernel) rfl ?_
    refine lv_aload_n hx hb (show decode cX9_init 235 = .ok (.aload_n 0, 1) by decide +kernel) rfl (lv_at hl 1 rfl) ?_
    refine va_get (D := gD E) (ci := 9) (C := RX9) (T := TX9) (N := 6) hx hb hts (fun w hw => gBig_of (guw_9 w hw) (gug_9 w hw)) hown hK hP 1 hLw.2.1 rfl 0 (by decide) (hts _ kw_165) (fun _ h9 => h9) rfl (show decode cX9_init 236 = .ok (.getfield 14, 3) by decide +kernel) ?_
    refine va_ldcS hx hb hown (hF.2.2.1.1.1 (68, ";probe ", 4) (by decide)) (show decode cX9_init 239 = .ok (.ldc 68, 2) by decide +kernel) ?_
    refine lw_S (k := 4) hC0 hLw (by simp only [List.length_append]; omega) (by decide) (show decode cX9_init 241 = .ok (.invokevirtual 54, 3) by decide +kernel) (by omega) (by omega) (Nat.le_of_ble_eq_true rfl) hl.1 hP hD hS (fun ws H locs hLw hP hD hS => ?_)
    refine lv_iload_n hx hb (show decode cX9_init 244 = .ok (.iload_n 2, 1) by decide +kernel) rfl (lv_at hl 0 rfl) ?_
    refine lw_I (x := i) hC0 hLw (by simp only [List.length_append]; omega) (by omega) (show decode cX9_init 245 = .ok (.invokevirtual 48, 3) by decide +kernel) (by omega) (by omega) (Nat.le_of_ble_eq_true rfl) hl.1 hP hD hS (fun ws H locs hLw hP hD hS => ?_)
    refine lv_bipush (v := gi (32)) hx hb (show decode cX9_init 248 = .ok (.bipush 32, 2) by decide +kernel) (by decide) ?_
    refine lw_C (x := 32) hC0 hLw (by simp only [List.length_append]; omega) (by decide) (show decode cX9_init 250 = .ok (.invokevirtual 63, 3) by decide +kernel) (by omega) (by omega) (Nat.le_of_ble_eq_true rfl) hl.1 hP hD hS (fun ws H locs hLw hP hD hS => ?_)
    refine lv_aload_n hx hb (show decode cX9_init 253 = .ok (.aload_n 0, 1) by decide +kernel) rfl (lv_at hl 1 rfl) ?_
    refine va_get (D := gD E) (ci := 9) (C := RX9) (T := TX9) (N := 6) hx hb hts (fun w hw => gBig_of (guw_9 w hw) (gug_9 w hw)) hown hK hP 1 hLw.2.1 rfl 3 (by decide) (hts _ kw_167) (fun _ h9 => h9) rfl (show decode cX9_init 254 = .ok (.getfield 27, 3) by decide +kernel) ?_
    refine lv_iload_n hx hb (show decode cX9_init 257 = .ok (.iload_n 2, 1) by decide +kernel) rfl (lv_at hl 0 rfl) ?_
    have hia : _ = some (pa, (.inl (gca E 0, 7, .inl (upd f2 i (gi u))) : va_E)) := (hLw.2.2.2 (r2, pa, 7, (upd f2 i (gi u))) (by simp)).2
    refine va_iald hx hb hK hP r2 0 hia rfl (gvp (by omega) (by omega) (by omega)) (show decode cX9_init 258 = .ok (.iaload, 1) by decide +kernel) ?_
    rw [gi_c (by omega) (by omega), Int.toNat_natCast, show (upd f2 i (gi u)) i = gi u from upd_at]
    refine lw_N (v := u) hC0 hLw (by simp only [List.length_append]; omega) (by omega) (by omega) (show decode cX9_init 259 = .ok (.invokestatic 59, 3) by decide +kernel) (by omega) (by omega) (Nat.le_of_ble_eq_true rfl) hl.1 hP hD hS (fun ws H locs hLw hP hD hS => ?_)
    refine lv_pop hx hb (show decode cX9_init 262 = .ok (.pop, 1) by decide +kernel) rfl ?_
    refine lv_iinc (k := 0) hx hb (show decode cX9_init 263 = .ok (.iinc 2 1, 3) by decide +kernel) hl rfl (gi_add (i : Int) 1) (by decide) rfl (fun LS hl => ?_)
    refine lv_goto hx hb (show decode cX9_init 266 = .ok (.goto (-95), 3) by decide +kernel) (tgt := 171) rfl ?_
    have hl : lv_has LS 4 [(2, .int (gi ((i + 1 : Nat) : Int))), (0, .ref lb), (1, .ref d)] := hl
    refine lw_rows hC0 hgl hN1 hN5 hr1 hr2 hr3 dn (i + 1) ws H locs LS _ (upd f1 i (gi v)) (upd f2 i (gi u)) _ _ _ (by omega) (by omega) (by simp only [List.length_append]; omega) (by omega) (by omega) (hB1.upd (by omega) (by omega)) (hB2.upd (by omega) (by omega)) hLw hl hP hD hS ?_
    intro ws' H' locs' LS' t' f1' f2' a' c' w' q1 q2 q3 q4 q5 q6 q7 q8 q9
    have q2 := Nat.le_trans q2 (show _ ≤ t.length + 21 * (dn + 1) by simp only [List.length_append]; omega)
    refine kk ws' H' locs' LS' t' f1' f2' a' c' w' (by omega) q2 (by omega) (by omega) q5 q6 q7 ?_ (fun j hj => ?_)
    · have e1 : svf f1' i = v := by
        unfold svf
        rw [(q9 i (by omega)).1, upd_at, gi_t (by omega) (by omega)]
      have e2 : svf f2' i = u := by
        unfold svf
        rw [(q9 i (by omega)).2, upd_at, gi_t (by omega) (by omega)]
      rw [q8]
      show _ = t ++ pLn 4 i (svf f1' i) (pLn 5 i (svf f2' i) (pTx (svf f1') (svf f2') dn (i + 1)))
      rw [e1, e2, pLn_eq (q := 4) (m := 5) rfl (by omega), pLn_eq (q := 3) (m := 4) rfl (by omega)]
    · obtain ⟨g1, g2⟩ := q9 j (by omega)
      rw [g1, g2, upd_ne (by omega), upd_ne (by omega)]
      exact ⟨rfl, rfl⟩

end LL