section
-- ===== PART A: goes FIRST, ahead of the names: the tables' words, and 'selects' of the private methods out of them =====
/-- a private method of a class that the tables say can be made, by its rows of tables_1 -/
def lw_okq (q : MethodName × Nat) : Prop := (q.1.cls ≠ "java/lang/invoke/MethodHandle" ∧ q.1.cls ≠ "java/lang/invoke/VarHandle") ∧ Cond.instantiable q.1.cls q.2 ∈ tables_1 ∧ Cond.privateMethod q.1 ∈ tables_1 ∧ Cond.instanceMethod q.1 ∈ tables_1
theorem lw_p0 : lw_okq (⟨"java/lang/Throwable", "fillInStackTrace", "(I)Ljava/lang/Throwable;"⟩, 6) := ⟨⟨by decide +kernel, by decide +kernel⟩, List.mem_of_getElem? (i := 650) (by decide +kernel), List.mem_of_getElem? (i := 648) (by decide +kernel), List.mem_of_getElem? (i := 649) (by decide +kernel)⟩
theorem lw_p1 : lw_okq (⟨"ToeplitzLab$Input", "advance", "()V"⟩, 14) := ⟨⟨by decide +kernel, by decide +kernel⟩, List.mem_of_getElem? (i := 38) (by decide +kernel), List.mem_of_getElem? (i := 700) (by decide +kernel), List.mem_of_getElem? (i := 701) (by decide +kernel)⟩
theorem lw_p2 : lw_okq (⟨"ToeplitzLab$Input", "runEnd", "(ICC)I"⟩, 14) := ⟨⟨by decide +kernel, by decide +kernel⟩, List.mem_of_getElem? (i := 38) (by decide +kernel), List.mem_of_getElem? (i := 704) (by decide +kernel), List.mem_of_getElem? (i := 705) (by decide +kernel)⟩
theorem lw_p3 : lw_okq (⟨"ToeplitzLab$Input", "byteAt", "(I)I"⟩, 14) := ⟨⟨by decide +kernel, by decide +kernel⟩, List.mem_of_getElem? (i := 38) (by decide +kernel), List.mem_of_getElem? (i := 708) (by decide +kernel), List.mem_of_getElem? (i := 709) (by decide +kernel)⟩
theorem lw_p4 : lw_okq (⟨"ToeplitzLab$Input", "readDecimals", "()I"⟩, 14) := ⟨⟨by decide +kernel, by decide +kernel⟩, List.mem_of_getElem? (i := 38) (by decide +kernel), List.mem_of_getElem? (i := 712) (by decide +kernel), List.mem_of_getElem? (i := 713) (by decide +kernel)⟩
theorem lw_p5 : lw_okq (⟨"ToeplitzLab$Input", "readHead", "()Z"⟩, 14) := ⟨⟨by decide +kernel, by decide +kernel⟩, List.mem_of_getElem? (i := 38) (by decide +kernel), List.mem_of_getElem? (i := 716) (by decide +kernel), List.mem_of_getElem? (i := 717) (by decide +kernel)⟩
theorem lw_p6 : lw_okq (⟨"ToeplitzLab$Input", "isWord", "(Ljava/lang/String;)Z"⟩, 14) := ⟨⟨by decide +kernel, by decide +kernel⟩, List.mem_of_getElem? (i := 38) (by decide +kernel), List.mem_of_getElem? (i := 721) (by decide +kernel), List.mem_of_getElem? (i := 722) (by decide +kernel)⟩
theorem lw_p7 : lw_okq (⟨"ToeplitzLab$Input", "fail", "(I)Z"⟩, 14) := ⟨⟨by decide +kernel, by decide +kernel⟩, List.mem_of_getElem? (i := 38) (by decide +kernel), List.mem_of_getElem? (i := 727) (by decide +kernel), List.mem_of_getElem? (i := 728) (by decide +kernel)⟩
theorem lw_p8 : lw_okq (⟨"ToeplitzLab$Input", "reachNumber", "(IIZ)Z"⟩, 14) := ⟨⟨by decide +kernel, by decide +kernel⟩, List.mem_of_getElem? (i := 38) (by decide +kernel), List.mem_of_getElem? (i := 731) (by decide +kernel), List.mem_of_getElem? (i := 732) (by decide +kernel)⟩
theorem lw_p9 : lw_okq (⟨"ToeplitzLab$Input", "readLine", "()Z"⟩, 14) := ⟨⟨by decide +kernel, by decide +kernel⟩, List.mem_of_getElem? (i := 38) (by decide +kernel), List.mem_of_getElem? (i := 741) (by decide +kernel), List.mem_of_getElem? (i := 742) (by decide +kernel)⟩
theorem lw_p10 : lw_okq (⟨"ToeplitzLab$Input", "readRange", "(Z)Z"⟩, 14) := ⟨⟨by decide +kernel, by decide +kernel⟩, List.mem_of_getElem? (i := 38) (by decide +kernel), List.mem_of_getElem? (i := 746) (by decide +kernel), List.mem_of_getElem? (i := 747) (by decide +kernel)⟩
theorem lw_p11 : lw_okq (⟨"ToeplitzLab$Input", "readRangeValue", "()Z"⟩, 14) := ⟨⟨by decide +kernel, by decide +kernel⟩, List.mem_of_getElem? (i := 38) (by decide +kernel), List.mem_of_getElem? (i := 750) (by decide +kernel), List.mem_of_getElem? (i := 751) (by decide +kernel)⟩
theorem lw_p12 : lw_okq (⟨"ToeplitzLab$Input", "readPart", "([II)Z"⟩, 14) := ⟨⟨by decide +kernel, by decide +kernel⟩, List.mem_of_getElem? (i := 38) (by decide +kernel), List.mem_of_getElem? (i := 760) (by decide +kernel), List.mem_of_getElem? (i := 761) (by decide +kernel)⟩
theorem lw_p13 : lw_okq (⟨"ToeplitzLab", "requireSystem", "()V"⟩, 11) := ⟨⟨by decide +kernel, by decide +kernel⟩, List.mem_of_getElem? (i := 30) (by decide +kernel), List.mem_of_getElem? (i := 803) (by decide +kernel), List.mem_of_getElem? (i := 804) (by decide +kernel)⟩
theorem lw_p14 : lw_okq (⟨"ToeplitzLab", "requireDiagonal", "(I)V"⟩, 11) := ⟨⟨by decide +kernel, by decide +kernel⟩, List.mem_of_getElem? (i := 30) (by decide +kernel), List.mem_of_getElem? (i := 823) (by decide +kernel), List.mem_of_getElem? (i := 824) (by decide +kernel)⟩
theorem lw_p15 : lw_okq (⟨"ToeplitzLab", "requireRow", "(I)V"⟩, 11) := ⟨⟨by decide +kernel, by decide +kernel⟩, List.mem_of_getElem? (i := 30) (by decide +kernel), List.mem_of_getElem? (i := 836) (by decide +kernel), List.mem_of_getElem? (i := 837) (by decide +kernel)⟩
def lw_privs_1 : List (MethodName × Nat) := [(⟨"java/lang/Throwable", "fillInStackTrace", "(I)Ljava/lang/Throwable;"⟩, 6), (⟨"ToeplitzLab$Input", "advance", "()V"⟩, 14), (⟨"ToeplitzLab$Input", "runEnd", "(ICC)I"⟩, 14), (⟨"ToeplitzLab$Input", "byteAt", "(I)I"⟩, 14), (⟨"ToeplitzLab$Input", "readDecimals", "()I"⟩, 14), (⟨"ToeplitzLab$Input", "readHead", "()Z"⟩, 14), (⟨"ToeplitzLab$Input", "isWord", "(Ljava/lang/String;)Z"⟩, 14), (⟨"ToeplitzLab$Input", "fail", "(I)Z"⟩, 14), (⟨"ToeplitzLab$Input", "reachNumber", "(IIZ)Z"⟩, 14), (⟨"ToeplitzLab$Input", "readLine", "()Z"⟩, 14), (⟨"ToeplitzLab$Input", "readRange", "(Z)Z"⟩, 14), (⟨"ToeplitzLab$Input", "readRangeValue", "()Z"⟩, 14), (⟨"ToeplitzLab$Input", "readPart", "([II)Z"⟩, 14), (⟨"ToeplitzLab", "requireSystem", "()V"⟩, 11), (⟨"ToeplitzLab", "requireDiagonal", "(I)V"⟩, 11), (⟨"ToeplitzLab", "requireRow", "(I)V"⟩, 11)]
theorem lw_r1 : ∀ q ∈ lw_privs_1, lw_okq q := List.forall_mem_cons.mpr ⟨lw_p0, List.forall_mem_cons.mpr ⟨lw_p1, List.forall_mem_cons.mpr ⟨lw_p2, List.forall_mem_cons.mpr ⟨lw_p3, List.forall_mem_cons.mpr ⟨lw_p4, List.forall_mem_cons.mpr ⟨lw_p5, List.forall_mem_cons.mpr ⟨lw_p6, List.forall_mem_cons.mpr ⟨lw_p7, List.forall_mem_cons.mpr ⟨lw_p8, List.forall_mem_cons.mpr ⟨lw_p9, List.forall_mem_cons.mpr ⟨lw_p10, List.forall_mem_cons.mpr ⟨lw_p11, List.forall_mem_cons.mpr ⟨lw_p12, List.forall_mem_cons.mpr ⟨lw_p13, List.forall_mem_cons.mpr ⟨lw_p14, List.forall_mem_cons.mpr ⟨lw_p15, fun _ h => absurd h List.not_mem_nil⟩⟩⟩⟩⟩⟩⟩⟩⟩⟩⟩⟩⟩⟩⟩⟩
theorem lw_p16 : lw_okq (⟨"ToeplitzLab", "requireSize", "(I)V"⟩, 11) := ⟨⟨by decide +kernel, by decide +kernel⟩, List.mem_of_getElem? (i := 30) (by decide +kernel), List.mem_of_getElem? (i := 853) (by decide +kernel), List.mem_of_getElem? (i := 854) (by decide +kernel)⟩
theorem lw_p17 : lw_okq (⟨"ToeplitzLab", "leadingMinor", "(II)I"⟩, 11) := ⟨⟨by decide +kernel, by decide +kernel⟩, List.mem_of_getElem? (i := 30) (by decide +kernel), List.mem_of_getElem? (i := 858) (by decide +kernel), List.mem_of_getElem? (i := 859) (by decide +kernel)⟩
theorem lw_p18 : lw_okq (⟨"ToeplitzLab$Grid", "pivotRow", "(III)I"⟩, 6) := ⟨⟨by decide +kernel, by decide +kernel⟩, List.mem_of_getElem? (i := 180) (by decide +kernel), List.mem_of_getElem? (i := 879) (by decide +kernel), List.mem_of_getElem? (i := 880) (by decide +kernel)⟩
theorem lw_p19 : lw_okq (⟨"ToeplitzLab$Grid", "leadRow", "(III)I"⟩, 6) := ⟨⟨by decide +kernel, by decide +kernel⟩, List.mem_of_getElem? (i := 180) (by decide +kernel), List.mem_of_getElem? (i := 883) (by decide +kernel), List.mem_of_getElem? (i := 884) (by decide +kernel)⟩
theorem lw_p20 : lw_okq (⟨"ToeplitzLab$Grid", "clearColumn", "(II)V"⟩, 6) := ⟨⟨by decide +kernel, by decide +kernel⟩, List.mem_of_getElem? (i := 180) (by decide +kernel), List.mem_of_getElem? (i := 891) (by decide +kernel), List.mem_of_getElem? (i := 892) (by decide +kernel)⟩
theorem lw_p21 : lw_okq (⟨"ToeplitzLab", "startBehind", "(I)I"⟩, 11) := ⟨⟨by decide +kernel, by decide +kernel⟩, List.mem_of_getElem? (i := 30) (by decide +kernel), List.mem_of_getElem? (i := 903) (by decide +kernel), List.mem_of_getElem? (i := 904) (by decide +kernel)⟩
theorem lw_p22 : lw_okq (⟨"ToeplitzLab", "findSteps", "()I"⟩, 11) := ⟨⟨by decide +kernel, by decide +kernel⟩, List.mem_of_getElem? (i := 30) (by decide +kernel), List.mem_of_getElem? (i := 907) (by decide +kernel), List.mem_of_getElem? (i := 908) (by decide +kernel)⟩
theorem lw_p23 : lw_okq (⟨"ToeplitzLab", "requireBehind", "(II)V"⟩, 11) := ⟨⟨by decide +kernel, by decide +kernel⟩, List.mem_of_getElem? (i := 30) (by decide +kernel), List.mem_of_getElem? (i := 925) (by decide +kernel), List.mem_of_getElem? (i := 926) (by decide +kernel)⟩
theorem lw_p24 : lw_okq (⟨"ToeplitzLab", "complementBehind", "(I)V"⟩, 11) := ⟨⟨by decide +kernel, by decide +kernel⟩, List.mem_of_getElem? (i := 30) (by decide +kernel), List.mem_of_getElem? (i := 930) (by decide +kernel), List.mem_of_getElem? (i := 931) (by decide +kernel)⟩
theorem lw_p25 : lw_okq (⟨"ToeplitzLab", "pairsBehind", "(I)I"⟩, 11) := ⟨⟨by decide +kernel, by decide +kernel⟩, List.mem_of_getElem? (i := 30) (by decide +kernel), List.mem_of_getElem? (i := 955) (by decide +kernel), List.mem_of_getElem? (i := 956) (by decide +kernel)⟩
theorem lw_p26 : lw_okq (⟨"ToeplitzLab$Pairs", "keep", "(LToeplitzLab$Grid;IIII)V"⟩, 2) := ⟨⟨by decide +kernel, by decide +kernel⟩, List.mem_of_getElem? (i := 209) (by decide +kernel), List.mem_of_getElem? (i := 969) (by decide +kernel), List.mem_of_getElem? (i := 970) (by decide +kernel)⟩
theorem lw_p27 : lw_okq (⟨"ToeplitzLab$Pairs", "subtract", "(LToeplitzLab$Grid;II)V"⟩, 2) := ⟨⟨by decide +kernel, by decide +kernel⟩, List.mem_of_getElem? (i := 209) (by decide +kernel), List.mem_of_getElem? (i := 975) (by decide +kernel), List.mem_of_getElem? (i := 976) (by decide +kernel)⟩
theorem lw_p28 : lw_okq (⟨"ToeplitzLab", "eliminateWithSides", "()I"⟩, 11) := ⟨⟨by decide +kernel, by decide +kernel⟩, List.mem_of_getElem? (i := 30) (by decide +kernel), List.mem_of_getElem? (i := 993) (by decide +kernel), List.mem_of_getElem? (i := 994) (by decide +kernel)⟩
theorem lw_p29 : lw_okq (⟨"ToeplitzLab", "requireLifter", "()V"⟩, 11) := ⟨⟨by decide +kernel, by decide +kernel⟩, List.mem_of_getElem? (i := 30) (by decide +kernel), List.mem_of_getElem? (i := 1003) (by decide +kernel), List.mem_of_getElem? (i := 1004) (by decide +kernel)⟩
theorem lw_p30 : lw_okq (⟨"ToeplitzLab", "requireFraction", "(I)V"⟩, 11) := ⟨⟨by decide +kernel, by decide +kernel⟩, List.mem_of_getElem? (i := 30) (by decide +kernel), List.mem_of_getElem? (i := 1050) (by decide +kernel), List.mem_of_getElem? (i := 1051) (by decide +kernel)⟩
theorem lw_p31 : lw_okq (⟨"ToeplitzLab", "timesProbe", "(I)I"⟩, 11) := ⟨⟨by decide +kernel, by decide +kernel⟩, List.mem_of_getElem? (i := 30) (by decide +kernel), List.mem_of_getElem? (i := 1074) (by decide +kernel), List.mem_of_getElem? (i := 1075) (by decide +kernel)⟩
def lw_privs_2 : List (MethodName × Nat) := [(⟨"ToeplitzLab", "requireSize", "(I)V"⟩, 11), (⟨"ToeplitzLab", "leadingMinor", "(II)I"⟩, 11), (⟨"ToeplitzLab$Grid", "pivotRow", "(III)I"⟩, 6), (⟨"ToeplitzLab$Grid", "leadRow", "(III)I"⟩, 6), (⟨"ToeplitzLab$Grid", "clearColumn", "(II)V"⟩, 6), (⟨"ToeplitzLab", "startBehind", "(I)I"⟩, 11), (⟨"ToeplitzLab", "findSteps", "()I"⟩, 11), (⟨"ToeplitzLab", "requireBehind", "(II)V"⟩, 11), (⟨"ToeplitzLab", "complementBehind", "(I)V"⟩, 11), (⟨"ToeplitzLab", "pairsBehind", "(I)I"⟩, 11), (⟨"ToeplitzLab$Pairs", "keep", "(LToeplitzLab$Grid;IIII)V"⟩, 2), (⟨"ToeplitzLab$Pairs", "subtract", "(LToeplitzLab$Grid;II)V"⟩, 2), (⟨"ToeplitzLab", "eliminateWithSides", "()I"⟩, 11), (⟨"ToeplitzLab", "requireLifter", "()V"⟩, 11), (⟨"ToeplitzLab", "requireFraction", "(I)V"⟩, 11), (⟨"ToeplitzLab", "timesProbe", "(I)I"⟩, 11)]
theorem lw_r2 : ∀ q ∈ lw_privs_2, lw_okq q := List.forall_mem_cons.mpr ⟨lw_p16, List.forall_mem_cons.mpr ⟨lw_p17, List.forall_mem_cons.mpr ⟨lw_p18, List.forall_mem_cons.mpr ⟨lw_p19, List.forall_mem_cons.mpr ⟨lw_p20, List.forall_mem_cons.mpr ⟨lw_p21, List.forall_mem_cons.mpr ⟨lw_p22, List.forall_mem_cons.mpr ⟨lw_p23, List.forall_mem_cons.mpr ⟨lw_p24, List.forall_mem_cons.mpr ⟨lw_p25, List.forall_mem_cons.mpr ⟨lw_p26, List.forall_mem_cons.mpr ⟨lw_p27, List.forall_mem_cons.mpr ⟨lw_p28, List.forall_mem_cons.mpr ⟨lw_p29, List.forall_mem_cons.mpr ⟨lw_p30, List.forall_mem_cons.mpr ⟨lw_p31, fun _ h => absurd h List.not_mem_nil⟩⟩⟩⟩⟩⟩⟩⟩⟩⟩⟩⟩⟩⟩⟩⟩
theorem lw_p32 : lw_okq (⟨"ToeplitzLab", "requireWrappedRow", "(I)V"⟩, 11) := ⟨⟨by decide +kernel, by decide +kernel⟩, List.mem_of_getElem? (i := 30) (by decide +kernel), List.mem_of_getElem? (i := 1082) (by decide +kernel), List.mem_of_getElem? (i := 1083) (by decide +kernel)⟩
theorem lw_p33 : lw_okq (⟨"ToeplitzLab", "aroundCircle", "(I)I"⟩, 11) := ⟨⟨by decide +kernel, by decide +kernel⟩, List.mem_of_getElem? (i := 30) (by decide +kernel), List.mem_of_getElem? (i := 1087) (by decide +kernel), List.mem_of_getElem? (i := 1088) (by decide +kernel)⟩
theorem lw_p34 : lw_okq (⟨"ToeplitzLab$Lifter", "nextRest", "(LToeplitzLab$State;I)I"⟩, 2) := ⟨⟨by decide +kernel, by decide +kernel⟩, List.mem_of_getElem? (i := 237) (by decide +kernel), List.mem_of_getElem? (i := 1159) (by decide +kernel), List.mem_of_getElem? (i := 1160) (by decide +kernel)⟩
theorem lw_p35 : lw_okq (⟨"ToeplitzLab$Fractions", "rowTimes", "(LToeplitzLab$State;IJ)J"⟩, 2) := ⟨⟨by decide +kernel, by decide +kernel⟩, List.mem_of_getElem? (i := 223) (by decide +kernel), List.mem_of_getElem? (i := 1173) (by decide +kernel), List.mem_of_getElem? (i := 1174) (by decide +kernel)⟩
def lw_privs_3 : List (MethodName × Nat) := [(⟨"ToeplitzLab", "requireWrappedRow", "(I)V"⟩, 11), (⟨"ToeplitzLab", "aroundCircle", "(I)I"⟩, 11), (⟨"ToeplitzLab$Lifter", "nextRest", "(LToeplitzLab$State;I)I"⟩, 2), (⟨"ToeplitzLab$Fractions", "rowTimes", "(LToeplitzLab$State;IJ)J"⟩, 2)]
theorem lw_r3 : ∀ q ∈ lw_privs_3, lw_okq q := List.forall_mem_cons.mpr ⟨lw_p32, List.forall_mem_cons.mpr ⟨lw_p33, List.forall_mem_cons.mpr ⟨lw_p34, List.forall_mem_cons.mpr ⟨lw_p35, fun _ h => absurd h List.not_mem_nil⟩⟩⟩⟩
def lw_privs : List (MethodName × Nat) := lw_privs_1 ++ (lw_privs_2 ++ (lw_privs_3))
def lw_tbl : List Cond := k2_sels lw_privs ++ tables_1
theorem lw_privs_ok : ∀ q ∈ lw_privs, lw_okq q := by
  show ∀ q ∈ lw_privs_1 ++ (lw_privs_2 ++ (lw_privs_3)), lw_okq q
  exact List.forall_mem_append.mpr ⟨lw_r1, List.forall_mem_append.mpr ⟨lw_r2, lw_r3⟩⟩
end
section
/-! ===== BEGIN words of one list among another's, by their places ===== -/
theorem goodIn_r {big : List Cond} (ws : List Cond) (ps : List Nat) (hp : ws = ps.filterMap (fun i => big[i]?)) (h : ws.all goodWord = true) : GoodIn big ws := by
  intro w hw
  have h1 := List.all_eq_true.mp h w hw
  rw [hp] at hw
  obtain ⟨i, -, hi⟩ := List.mem_filterMap.mp hw
  have hm : w ∈ big := by first | exact List.mem_of_getElem? hi | exact List.getElem?_mem hi
  exact ⟨hm, good_of_word h1⟩
theorem goodIn_app {big a b : List Cond} (ha : GoodIn big a) (hb : GoodIn big b) : GoodIn big (a ++ b) := fun w h => (List.mem_append.mp h).elim (ha w) (hb w)
theorem goodIn_ca {big a b : List Cond} {c : Cond} (ha : GoodIn big (c :: a)) (hb : GoodIn big b) : GoodIn big (c :: (a ++ b)) := fun w h => (List.mem_cons.mp h).elim (fun e => ha w (List.mem_cons.mpr (Or.inl e))) (fun h => (List.mem_append.mp h).elim (fun h => ha w (List.mem_cons.mpr (Or.inr h))) (hb w))
theorem goodIn_sub {big ws : List Cond} (hm : ∀ w ∈ ws, w ∈ big) (h : ws.all goodWord = true) : GoodIn big ws := fun w hw => ⟨hm w hw, good_of_word (List.all_eq_true.mp h w hw)⟩
/-! ===== END ===== -/

/-! ===== BEGIN new T[n][m]: the outer array a place, the inner ones among the pooled ===== -/
/-- f, but v at every address of l -/
def vr_up {α : Type} (f : Nat → α) (l : List Nat) (v : α) : Nat → α := fun a => if a ∈ l then v else f a
theorem vr_up_in {α : Type} {f : Nat → α} {l : List Nat} {v : α} {a : Nat} (h : a ∈ l) : vr_up f l v a = v := if_pos h
theorem vr_up_ne {α : Type} {f : Nat → α} {l : List Nat} {v : α} {a : Nat} (h : a ∉ l) : vr_up f l v a = f a := if_neg h
theorem vr_rows {L l : List Nat} {f : Nat → va_E} {e : va_E} (h : ∀ a, a ∈ l → a ∉ L) : va_pl L f ++ l.map (fun a => (a, e)) = va_pl (L ++ l) (vr_up f l e) := by
  unfold va_pl
  rw [List.map_append]
  congr 1
  · apply List.map_congr_left
    intro a ha
    rw [vr_up_ne (fun q => h a q ha)]
  · apply List.map_congr_left
    intro a ha
    rw [vr_up_in ha]
theorem vr_lay {X rows : va_W} {x : Nat × va_E} {pl : va_W} {D : va_G} {cl : List vw_C} {H : Heap} (hP : va_P D cl (((X ++ pl) ++ [x]) ++ rows) H) : va_P D cl ((X ++ [x]) ++ (pl ++ rows)) H := by
  rw [List.append_assoc (X ++ pl)] at hP
  have h := va_P.swap hP
  rw [← List.append_assoc X] at h
  have h2 := va_P.swap h
  rw [List.append_assoc (X ++ [x])] at h2
  exact h2
theorem vr_layD {X rows : va_W} {x : Nat × va_E} {pl : va_W} {A : Nat → Prop} (hD : va_D A (((X ++ pl) ++ [x]) ++ rows)) : va_D A ((X ++ [x]) ++ (pl ++ rows)) := by
  rw [List.append_assoc (X ++ pl)] at hD
  have h := va_D.swap hD
  rw [← List.append_assoc X] at h
  have h2 := va_D.swap h
  rw [List.append_assoc (X ++ [x])] at h2
  exact h2
theorem vr_outer (c : ClassId) (N h0 : Nat) : ∀ i : Nat, Jvm.Free.Multi.outerC c N h0 i = arrV c N (fun j => va_rf (if j < i then some (h0 + 1 + j) else none))
  | 0 => by
    show ({ cls := c, slots := Array.replicate N .null, vm := .none } : Cell) = _
    rw [arrV_new]
    refine congrArg (arrV c N) (funext fun j => ?_)
    simp [va_rf]
  | i + 1 => by
    show (Jvm.Free.Multi.outerC c N h0 i).setSlot i (.ref (h0 + 1 + i)) = _
    rw [vr_outer c N h0 i, arrV_store]
    refine congrArg (arrV c N) (funext fun j => ?_)
    by_cases e : j = i
    · subst e
      simp [updV, va_rf]
    · by_cases h : j < i
      · simp [updV, e, h, Nat.lt_succ_of_lt h]
      · simp [updV, e, h, show ¬ j < i + 1 by omega]

/-! ===== BEGIN exceptions that leave a method, and their catching by the caller (launches without stack traces) ===== -/
section VXA
/-! The laws vx_back, vx_callV, vx_callS, vx_callSW, vx_throw0, vx_throwS follow proofs of the library, with one case more: JvmDerived/Free/Laws.lean (Back.of_free), Shelf42/LK1.lean (callV, callS), Shelf/KitTraced.lean (throwNew0V, throwNewS). -/
/-- where a method has thrown q: the class by its name, the cell, what was written, the world -/
def vx_T (XC : String → State → State → Prop) (st : State) (q : Addr) (t : State) (mc ms : Nat) (free : Addr → Prop) : Prop :=
  ∃ (E : String) (ce : Cell) (L : List Loc), XC E st t ∧ t.heap[q]? = some ce ∧ ce.vm = .none ∧ st.vm.findClass E = some ce.cls ∧ st.WarmedH t.vm ∧ st.sameButNew ({ t with vm := st.vm } : State) L mc ms ∧ ∀ z ∈ L, free z.base
def vx_Q (Qc : Array Value → State → Outcome → State → Prop) (XC : String → State → State → Prop) (mc ms : Nat) (free : Addr → Prop) : Array Value → State → Outcome → State → Prop := fun a st o t =>
  (Qc a st o t ∧ ∃ L, FrameEnd st o t L mc ms ∧ ∀ q ∈ L, free q.base) ∨ ∃ q, o = .threw q ∧ vx_T XC st q t mc ms free
/-- a callee that returns or throws -/
def vx_Met (l : Launch) (y : MethodName) (ws : List Cond) (rm : Room) (Pc : Array Value → State → Prop) (Qc : Array Value → State → Outcome → State → Prop) (XC : String → State → State → Prop) (mc ms : Nat) (free : Addr → Prop) : Prop :=
  MetFree l y (headSpec ws rm) Pc (fun _ _ _ _ _ => True) (vx_Q Qc XC mc ms free)
def vx_Post (XC : String → State → State → Prop) (mc ms : Nat) (free : Addr → Prop) : Pt → Array Value → Addr → Pt → Prop := fun A a q B =>
  ∃ (g : JFrame) (mk : MethodId) (t : State) (L : List Loc) (E : String) (ce : Cell), B.U.heap = t.heap ∧ B.U.vm = t.vm ∧ XC E (A.U.calling g mk a) t ∧ t.heap[q]? = some ce ∧ ce.vm = .none ∧ A.U.vm.findClass E = some ce.cls ∧ B.locs = A.locs ++ L ∧ (∀ z ∈ L, free z.base) ∧ B.cells = A.cells + mc ∧ B.slots = A.slots + ms
def vx_Back (l : Launch) (R : Room) (p : Program) (e : Env) (below : List Frame) (s : State) (sargs : Array Value) (y : MethodName) (len W9 : Nat)
    (Pre : Pt → Array Value → Prop) (Post : Pt → Array Value → Option Value → Pt → Prop) (PostX : Pt → Array Value → Addr → Pt → Prop) : Prop :=
  ∀ (m : MethodId) (meth : Method) (c : Code) (A : Pt) (g : JFrame) (ig : Instr) (mk : MethodId) (a : Array Value),
    Stand p l e R s m sargs below meth c A.U A.locs A.cells A.slots → g.method = m → g.locals.size = c.maxLocals → decode c.code g.pc = .ok (ig, len) →
    2 * g.monitorRoom + (g.stack.map fun v => v.category).sum ≤ W9 → A.U.methodNamed? y = some mk → Pre A a →
    (∃ (v : Option Value) (B : Pt), Stand p l e R s m sargs below meth c B.U B.locs B.cells B.slots ∧ Post A a v B ∧
      Steps p.tables e below (doInvoke e (A.U.setTop g) [] mk a).1 (B.U.setTop { g with pc := g.pc + len, stack := v.toList ++ g.stack })) ∨
    (∃ (q : Addr) (B : Pt), Stand p l e R s m sargs below meth c B.U B.locs B.cells B.slots ∧ PostX A a q B ∧
      Steps p.tables e below (doInvoke e (A.U.setTop g) [] mk a).1 ((B.U.setTop g).pushFrame (.throwing q)))
section Payer
variable {l : Launch} {R : Room} {p : Program} {e : Env} {below : List Frame} {s : State} {sargs : Array Value} {y : MethodName} {len W9 : Nat}
theorem vx_back {ws : List Cond} {rm : Room} {Pc : Array Value → State → Prop} {Qc : Array Value → State → Outcome → State → Prop} {XC : String → State → State → Prop} {mc ms : Nat} {free : Addr → Prop} {bytes : ByteArray} {maxL : Nat} {ret : Option FieldType}
    (hM : vx_Met l y ws rm Pc Qc XC mc ms free) (hblind : FrameBlind Pc) (hrc : rm.cells = mc) (hrs : rm.slots = ms)
    (hframes : rm.frames + 1 ≤ R.frames) (hlocals : W9 + (maxL + 11) + rm.locals ≤ R.locals)
    (hws : ∀ w ∈ ws, ∀ a' U, s.WarmedH U.vm → w.before a' U = true) (hcode : Cond.code y bytes maxL ret ∈ ws) (hinit : ∀ a' U, s.WarmedH U.vm → (Cond.initialized y.cls).before a' U = true) :
    vx_Back l R p e below s sargs y len W9 (PreOf R mc ms Pc) (PostOf Qc mc ms free) (vx_Post XC mc ms free) := by
  intro m meth c A g ig mk a X hg hsize hdg hW hn hp
  have h1 : (headSpec ws rm).pre.before a A.U = true := atoms_intro fun w hw => hws w hw _ _ X.warmed
  have h2 : (Cond.code y bytes maxL ret).before a A.U = true := hws _ hcode _ _ X.warmed
  have h3 : (Cond.initialized y.cls).before a A.U = true := hinit _ _ X.warmed
  have h4 : A.cells + (headSpec ws rm).room.cells ≤ R.cells := by rw [show (headSpec ws rm).room.cells = mc from hrc]; exact hp.1
  have h5 : A.slots + (headSpec ws rm).room.slots ≤ R.slots := by rw [show (headSpec ws rm).room.slots = ms from hrs]; exact hp.2.1
  have hPc : Pc a (A.U.calling g mk a) := hblind _ _ _ _ hp.2.2
  obtain ⟨U, Ls, c0, s0⟩ := A
  dsimp only [Pt.U, Pt.locs, Pt.cells, Pt.slots] at h1 h2 h3 h4 h5 X hn hPc ⊢
  obtain ⟨methY, cY, hmY, hcY, -, hlY, -, -, -, -⟩ := Cond.code_spec hn h2
  obtain ⟨kY, hkY, -⟩ := className_of_methodNamed hn
  have hinitY : kY.init = .initialized := Cond.initialized_spec (findClass_of_methodNamed hn) hkY h3
  have h : At U g.method c below := by rw [hg]; exact X.here
  have hlocals9 : W9 + (maxL + 11) + (headSpec ws rm).room.locals ≤ R.locals := hlocals
  have happ : (headSpec ws rm).appliesLoose y e.platform (U.calling g mk a) = true :=
    Spec.appliesLoose_calling (g := g) h hdg hn hkY hinitY
      (X.room_calling (g := g) (R' := (headSpec ws rm).room) hsize hmY hcY hframes (by rw [hlY]; omega) h4 h5) h1
  obtain ⟨mid, hmid⟩ := h.above
  have hfr : (U.setTop g).frames = (.java g :: mid) ++ below := by rw [State.frames_setTop' g h.top, hmid]; rfl
  obtain ⟨o, s₂, hsteps, -, hend, hq⟩ := Steps.callFree hM p X.admits X.cas X.clock (acts := []) hfr happ hPc trivial
  have hq' : vx_Q Qc XC mc ms free a (U.calling g mk a) o s₂ := hq
  rw [State.frames_setTop' g h.top] at hend
  obtain ⟨g₀, hg0⟩ := Option.isSome_iff_exists.mp h.top
  obtain ⟨r, hr⟩ := State.topJava?_eq_some.mp hg0
  have hr' : (({ U with heap := s₂.heap, slotsUsed := s₂.slotsUsed } : State).setVm s₂.vm).frames = .java g₀ :: r := hr
  rcases hq' with ⟨hqc, L, hfe, hL⟩ | ⟨q, rfl, E, ce, L, hx, hce, hcv, hcl, hW₂, hsm, hL⟩
  · obtain ⟨⟨v, rfl⟩, hW₂, e2, q2, q3, q4, q5, q6⟩ := id hfe
    have e3 : s₂ = ({ (U.calling g mk a).setFrames s₂.frames with heap := s₂.heap, slotsUsed := s₂.slotsUsed } : State).setVm s₂.vm := by
      have : s₂ = ({ s₂ with vm := (U.calling g mk a).vm } : State).setVm s₂.vm := rfl
      rw [e2] at this
      exact this
    obtain ⟨c₂, i₂, len₂, hc₂, hd₂, hf₂⟩ := hend
    have hW' : U.WarmedH s₂.vm := hW₂
    have hcc : c₂ = c := by
      have h1 : s₂.code? g.method = U.code? g.method := by
        rw [State.code?_eq, State.code?_eq, hW'.alike.method?]
      exact Option.some.inj (hc₂.symm.trans (h1.trans h.code))
    subst hcc
    have hlen : len₂ = len := by rw [hdg] at hd₂; cases hd₂; rfl
    subst hlen
    have hs₂ : s₂ = (({ U with heap := s₂.heap, slotsUsed := s₂.slotsUsed } : State).setVm s₂.vm).setTop { g with pc := g.pc + len₂, stack := v.toList ++ g.stack } := by
      refine e3.trans ?_
      rw [hf₂, State.calling_eq h.top, State.setFrames_setFrames, State.setTop_of_frames _ hr', hr]
      rfl
    have hsame : U.sameButNew ({ U with heap := s₂.heap, slotsUsed := s₂.slotsUsed } : State) L mc ms := by
      refine ⟨?_, q2, q3, q4, q5, q6⟩
      obtain ⟨t, ht, -⟩ := State.frames_cons hr
      show ({ U with heap := s₂.heap, slotsUsed := s₂.slotsUsed } : State) = { U.setFrames U.frames with heap := s₂.heap, slotsUsed := s₂.slotsUsed }
      rw [State.setFrames_self ht]
    subst hg
    refine Or.inl ⟨v, ⟨(({ U with heap := s₂.heap, slotsUsed := s₂.slotsUsed } : State).setVm s₂.vm), Ls ++ L, c0 + mc, s0 + ms⟩,
      ⟨X.admits, X.cas, X.clock, X.frames, X.room, X.hears, X.method, X.code, (X.here.setHeapUsed s₂.heap s₂.slotsUsed).setVm hW'.alike, X.tail, State.WarmedH.trans X.warmed hW', X.limits, X.bytes, X.same.trans (hsame.setVm s.vm)⟩,
      ⟨g, mk, s₂, L, rfl, rfl, hqc, rfl, hL, rfl, rfl⟩, ?_⟩
    show Steps p.tables e below _ ((({ U with heap := s₂.heap, slotsUsed := s₂.slotsUsed } : State).setVm s₂.vm).setTop { g with pc := g.pc + len₂, stack := v.toList ++ g.stack })
    rw [← hs₂]
    exact hsteps
  · obtain ⟨e2, q2, q3, q4, q5, q6⟩ := id hsm
    have e3 : s₂ = ({ (U.calling g mk a).setFrames s₂.frames with heap := s₂.heap, slotsUsed := s₂.slotsUsed } : State).setVm s₂.vm := by
      have : s₂ = ({ s₂ with vm := (U.calling g mk a).vm } : State).setVm s₂.vm := rfl
      rw [e2] at this
      exact this
    have hf₂ : s₂.frames = .throwing q :: .java g :: U.frames.tail := hend
    have hW' : U.WarmedH s₂.vm := hW₂
    have hs₂ : s₂ = ((({ U with heap := s₂.heap, slotsUsed := s₂.slotsUsed } : State).setVm s₂.vm).setTop g).pushFrame (.throwing q) := by
      refine e3.trans ?_
      rw [hf₂, State.calling_eq h.top, State.setFrames_setFrames, State.pushFrame, State.frames_setTop _ hr', State.setTop_of_frames _ hr', State.setFrames_setFrames, hr]
      rfl
    have hsame : U.sameButNew ({ U with heap := s₂.heap, slotsUsed := s₂.slotsUsed } : State) L mc ms := by
      refine ⟨?_, q2, q3, q4, q5, q6⟩
      obtain ⟨t, ht, -⟩ := State.frames_cons hr
      show ({ U with heap := s₂.heap, slotsUsed := s₂.slotsUsed } : State) = { U.setFrames U.frames with heap := s₂.heap, slotsUsed := s₂.slotsUsed }
      rw [State.setFrames_self ht]
    subst hg
    refine Or.inr ⟨q, ⟨(({ U with heap := s₂.heap, slotsUsed := s₂.slotsUsed } : State).setVm s₂.vm), Ls ++ L, c0 + mc, s0 + ms⟩,
      ⟨X.admits, X.cas, X.clock, X.frames, X.room, X.hears, X.method, X.code, (X.here.setHeapUsed s₂.heap s₂.slotsUsed).setVm hW'.alike, X.tail, State.WarmedH.trans X.warmed hW', X.limits, X.bytes, X.same.trans (hsame.setVm s.vm)⟩,
      ⟨g, mk, s₂, L, E, ce, rfl, rfl, hx, hce, hcv, hcl, rfl, hL, rfl, rfl⟩, ?_⟩
    show Steps p.tables e below _ (((({ U with heap := s₂.heap, slotsUsed := s₂.slotsUsed } : State).setVm s₂.vm).setTop g).pushFrame (.throwing q))
    rw [← hs₂]
    exact hsteps
end Payer
section Calls
variable {p : Program} {l : Launch} {e : Env} {R : Room} {s : State} {m : MethodId} {args : Array Value} {below : List Frame} {meth : Method} {c : Code} {T : State} {locs : List Loc} {cells slots : Nat}
theorem vx_callV (X : Stand p l e R s m args below meth c T locs cells slots) (hexec : p.tables.exec = Jvm.exec) {own C : String} {index : Nat} {y : MethodName} {bytes : ByteArray} {maxL : Nat} {ret : Option FieldType}
    (hown : s.vm.findClass own = some m.cls) (hlink : (Cond.methodLink own index y).before args s = true) (hinst : (Cond.instanceMethod y).before args s = true) (hsel : (Cond.selects C y y).before args s = true)
    (hcode : (Cond.code y bytes maxL ret).before args s = true) (hy : y.cls ≠ "java/lang/invoke/MethodHandle" ∧ y.cls ≠ "java/lang/invoke/VarHandle")
    {W9 : Nat} {Pre : Pt → Array Value → Prop} {Post : Pt → Array Value → Option Value → Pt → Prop} {PostX : Pt → Array Value → Addr → Pt → Prop} (hK : vx_Back l R p e below s args y 3 W9 Pre Post PostX)
    {b : Addr} {cellB : Cell} (hcell : T.heap[b]? = some cellB) (hobj : cellB.vm.isStatics = false) (hcls : s.vm.findClass C = some cellB.cls)
    {g : JFrame} (hg : g.method = m) (hsize : g.locals.size = c.maxLocals) {argsL rest : List Value} (hlen : ∀ sig, parseMethodDescriptor y.desc = some sig → argsL.length = sig.parameters.length)
    (hstack : g.stack = argsL.reverse ++ .ref b :: rest) (hW : 2 * g.monitorRoom + (rest.map fun v => v.category).sum ≤ W9) (hdg : decode c.code g.pc = .ok (.invokevirtual index, 3))
    (hpre : ∀ vm₁, s.WarmedH vm₁ → Pre ⟨T.setVm vm₁, locs, cells, slots⟩ (Value.ref b :: argsL).toArray) :
    (∃ (v : Option Value) (vm₁ : Vm) (B : Pt), s.WarmedH vm₁ ∧ Stand p l e R s m args below meth c B.U B.locs B.cells B.slots ∧ Post ⟨T.setVm vm₁, locs, cells, slots⟩ (Value.ref b :: argsL).toArray v B ∧
      ∀ target, Steps p.tables e below (B.U.setTop { g with pc := g.pc + 3, stack := v.toList ++ rest }) target → Steps p.tables e below (T.setTop g) target) ∨
    (∃ (q : Addr) (vm₁ : Vm) (B : Pt), s.WarmedH vm₁ ∧ Stand p l e R s m args below meth c B.U B.locs B.cells B.slots ∧ PostX ⟨T.setVm vm₁, locs, cells, slots⟩ (Value.ref b :: argsL).toArray q B ∧
      Steps p.tables e below (T.setTop g) ((B.U.setTop { g with stack := rest }).pushFrame (.throwing q))) := by
  obtain ⟨mk, methM, hnamed, hmethM, hstM, habM⟩ := Cond.instanceMethod_spec hinst
  obtain ⟨methM', cM, hmethM', -, -, -, -, -, -, hsigM⟩ := Cond.code_spec hnamed hcode
  cases hmethM.symm.trans hmethM'
  obtain ⟨c2, r2, m2, q1, q2, q3, q4, kP, hkP, hkPi⟩ := Cond.selects_spec hsel
  cases hcls.symm.trans q1
  cases (State.methodFound?_of_named hnamed hy).symm.trans q2
  cases hnamed.symm.trans q3
  have hselP : selectMethod e.platform s.vm cellB.cls mk = .method mk := by rw [Launch.admits_selectMethod X.admits]; exact q4
  obtain ⟨vm₁, X₁, hstep₁⟩ := X.invokevirtual hexec hown hlink hnamed hmethM hstM hkP hkPi hy (a := b) (cell := cellB) hcell
    (fun z h => by rw [h] at hobj; cases hobj) hselP hmethM habM hkP hkPi (g := g) hg (argsL := argsL) (rest := rest) (hlen _ hsigM) hstack hdg
  rcases hK m meth c ⟨T.setVm vm₁, locs, cells, slots⟩ { g with stack := rest } (.invokevirtual index) mk (Value.ref b :: argsL).toArray X₁ hg hsize hdg hW (X₁.named hnamed) (hpre vm₁ X₁.warmed) with ⟨v, B, X', hpost, hsteps⟩ | ⟨q, B, X', hpost, hsteps⟩
  · exact Or.inl ⟨v, vm₁, B, X₁.warmed, X', hpost, fun target h => hstep₁ _ fun acts => by rw [doInvoke_state]; exact hsteps.trans h⟩
  · exact Or.inr ⟨q, vm₁, B, X₁.warmed, X', hpost, hstep₁ _ fun acts => by rw [doInvoke_state]; exact hsteps⟩
theorem vx_callS (X : Stand p l e R s m args below meth c T locs cells slots) (hexec : p.tables.exec = Jvm.exec) {own : String} {index : Nat} {y : MethodName} {bytes : ByteArray} {maxL : Nat} {ret : Option FieldType}
    (hown : s.vm.findClass own = some m.cls) (hlink : (Cond.methodLink own index y).before args s = true) (hstat : (Cond.static y).before args s = true) (hinit : (Cond.initialized y.cls).before args s = true)
    (hcode : (Cond.code y bytes maxL ret).before args s = true) (hy : y.cls ≠ "java/lang/invoke/MethodHandle" ∧ y.cls ≠ "java/lang/invoke/VarHandle")
    {W9 : Nat} {Pre : Pt → Array Value → Prop} {Post : Pt → Array Value → Option Value → Pt → Prop} {PostX : Pt → Array Value → Addr → Pt → Prop} (hK : vx_Back l R p e below s args y 3 W9 Pre Post PostX)
    {g : JFrame} (hg : g.method = m) (hsize : g.locals.size = c.maxLocals) {argsL rest : List Value} (hlen : ∀ sig, parseMethodDescriptor y.desc = some sig → argsL.length = sig.parameters.length)
    (hstack : g.stack = argsL.reverse ++ rest) (hW : 2 * g.monitorRoom + (rest.map fun v => v.category).sum ≤ W9) (hdg : decode c.code g.pc = .ok (.invokestatic index, 3))
    (hpre : ∀ vm₁, s.WarmedH vm₁ → Pre ⟨T.setVm vm₁, locs, cells, slots⟩ argsL.toArray) :
    (∃ (v : Option Value) (vm₁ : Vm) (B : Pt), s.WarmedH vm₁ ∧ Stand p l e R s m args below meth c B.U B.locs B.cells B.slots ∧ Post ⟨T.setVm vm₁, locs, cells, slots⟩ argsL.toArray v B ∧
      ∀ target, Steps p.tables e below (B.U.setTop { g with pc := g.pc + 3, stack := v.toList ++ rest }) target → Steps p.tables e below (T.setTop g) target) ∨
    (∃ (q : Addr) (vm₁ : Vm) (B : Pt), s.WarmedH vm₁ ∧ Stand p l e R s m args below meth c B.U B.locs B.cells B.slots ∧ PostX ⟨T.setVm vm₁, locs, cells, slots⟩ argsL.toArray q B ∧
      Steps p.tables e below (T.setTop g) ((B.U.setTop { g with stack := rest }).pushFrame (.throwing q))) := by
  obtain ⟨mk, hnamed⟩ := Cond.code_named hcode
  obtain ⟨methM, cM, hmethM, -, -, -, -, -, -, hsigM⟩ := Cond.code_spec hnamed hcode
  have hstatic : methM.isStatic = true := Cond.static_spec hnamed hmethM hstat
  obtain ⟨kP, hkP, -⟩ := className_of_methodNamed hnamed
  have hinitP : kP.init = .initialized := Cond.initialized_spec (findClass_of_methodNamed hnamed) hkP hinit
  obtain ⟨vm₁, X₁, hstep₁⟩ := X.invokestatic hexec hown hlink hnamed hmethM hstatic hkP hinitP hy (g := g) hg (argsL := argsL) (rest := rest) (hlen _ hsigM) hstack hdg
  rcases hK m meth c ⟨T.setVm vm₁, locs, cells, slots⟩ { g with stack := rest } (.invokestatic index) mk argsL.toArray X₁ hg hsize hdg hW (X₁.named hnamed) (hpre vm₁ X₁.warmed) with ⟨v, B, X', hpost, hsteps⟩ | ⟨q, B, X', hpost, hsteps⟩
  · exact Or.inl ⟨v, vm₁, B, X₁.warmed, X', hpost, fun target h => hstep₁ _ fun acts => by rw [doInvoke_state]; exact hsteps.trans h⟩
  · exact Or.inr ⟨q, vm₁, B, X₁.warmed, X', hpost, hstep₁ _ fun acts => by rw [doInvoke_state]; exact hsteps⟩
end Calls
theorem vx_cls {s : State} {T : State} {vm₁ : Vm} {E : String} {k : ClassId} (hW : s.WarmedH vm₁) (h : (T.setVm vm₁).vm.findClass E = some k) : s.vm.findClass E = some k := by
  have h1 : vm₁.findClass E = some k := h
  rw [hW.alike.findClass] at h1
  exact h1
/-- the method's frame g, with q thrown over it -/
def vx_W (p : Program) (l : Launch) (e : Env) (R : Room) (s : State) (m : MethodId) (args : Array Value) (below : List Frame) (meth : Method) (c : Code) (H : Heap) (locs : List Loc) (cells slots : Nat) (Q : State → Prop) (g : JFrame) (q : Addr) : Prop :=
  ∀ T : State, T.heap = H → Stand p l e R s m args below meth c T locs cells slots → ∃ t, Steps p.tables e below ((T.setTop g).pushFrame (.throwing q)) t ∧ Q t
def vx_Run (p : Program) (l : Launch) (e : Env) (R : Room) (s : State) (m : MethodId) (args : Array Value) (below : List Frame) (meth : Method) (c : Code) (H : Heap) (locs : List Loc) (cells slots mc ms : Nat) (g : JFrame) (rest : List Value) (Qa : State → Outcome → State → Prop) (XC : String → State → State → Prop) (free : Addr → Prop) : Prop :=
  ∀ T : State, T.heap = H → Stand p l e R s m args below meth c T locs cells slots →
    (∃ (v : Option Value) (st₀ t T' : State) (L : List Loc), st₀.heap = H ∧ Stand p l e R s m args below meth c T' (locs ++ L) (cells + mc) (slots + ms) ∧ (∀ q ∈ L, free q.base) ∧ T'.heap = t.heap ∧ T'.vm = t.vm ∧ Qa st₀ (.returned v) t ∧
      Goes p e below T g T' { g with pc := g.pc + 3, stack := v.toList ++ rest }) ∨
    (∃ (q : Addr) (st₀ t T' : State) (L : List Loc) (E : String) (ce : Cell), st₀.heap = H ∧ Stand p l e R s m args below meth c T' (locs ++ L) (cells + mc) (slots + ms) ∧ (∀ z ∈ L, free z.base) ∧ T'.heap = t.heap ∧ T'.vm = t.vm ∧ XC E st₀ t ∧ t.heap[q]? = some ce ∧ ce.vm = .none ∧ s.vm.findClass E = some ce.cls ∧
      Steps p.tables e below (T.setTop g) ((T'.setTop { g with stack := rest }).pushFrame (.throwing q)))
def vx_X {S : Type} (px : S → Prop) (B : String → S → State → Prop) (A : Nat → Prop) : String → State → State → Prop := fun E st t => ∃ u : S, px u ∧ B E u t ∧ va_F A st t
section Runs
variable {p : Program} {l : Launch} {e : Env} {R : Room} {s : State} {m : MethodId} {args : Array Value} {below : List Frame} {meth : Method} {c : Code} {H : Heap} {locs : List Loc} {cells slots : Nat}
variable {y : MethodName} {bytes cc : ByteArray} {maxL nL mc ms n index : Nat} {ret : Option FieldType} {ws : List Cond} {rm : Room} {Pc : Array Value → State → Prop} {Qc : Array Value → State → Outcome → State → Prop} {XC : String → State → State → Prop} {free : Addr → Prop} {Ts : List Cond} {own C : String} {b : Addr} {As rest : List Value} {g : JFrame}
theorem vx_callBack (cb : CallB R s args own index y bytes maxL ret ws rm mc ms n) (hM : vx_Met l y ws rm Pc Qc XC mc ms free) (hbl : FrameBlind Pc) : vx_Back l R p e below s args y 3 8 (PreOf R mc ms Pc) (PostOf Qc mc ms free) (vx_Post XC mc ms free) := by
  obtain ⟨hrc, hrs, hfr, hlo, hws, hcw, -, hini, -⟩ := cb
  exact vx_back (bytes := bytes) (maxL := maxL) (ret := ret) hM hbl hrc hrs hfr hlo hws hcw (fun a' U hW => word_at hW (Or.inl (by first | rfl | simp [Cond.onTables, Cond.keeps, Cond.steady])) hini)
theorem vx_runV (S : CallFix p m c cc nL s args Ts own) (hM : vx_Met l y ws rm Pc Qc XC mc ms free) (cw : CallW R s args own C index y bytes maxL ret ws rm mc ms n) (hp : PreV s H C b Pc As)
    (hg : g.method = m) (hn : As.length = n) (hsize : g.locals.size = nL) (hstack : g.stack = As.reverse ++ .ref b :: rest) (hW : 2 * g.monitorRoom + (rest.map fun v => v.category).sum ≤ 8) (hdg : decode cc g.pc = .ok (.invokevirtual index, 3)) (hf : cells + mc ≤ R.cells ∧ slots + ms ≤ R.slots) :
    vx_Run p l e R s m args below meth c H locs cells slots mc ms g rest (Qc (Value.ref b :: As).toArray) XC free := by
  have hK : vx_Back l R p e below s args y 3 8 (PreOf R mc ms Pc) (PostOf Qc mc ms free) (vx_Post XC mc ms free) := vx_callBack cw.1 hM hp.1
  obtain ⟨⟨-, -, -, -, -, -, hcode, -, hy, hlen, hl⟩, hin, hse⟩ := cw
  obtain ⟨hx, hb, hml, ho, -⟩ := S
  obtain ⟨-, ⟨cellB, hcB, hoB, hclB⟩, hPc⟩ := hp
  intro T hT X
  rcases vx_callV X hx (C := C) (bytes := bytes) (maxL := maxL) (ret := ret) ho hl hin hse hcode hy hK (by rw [hT]; exact hcB) hoB hclB hg (hsize.trans hml.symm) (argsL := As) (rest := rest) (fun sig h => hn.trans (hlen sig h)) hstack hW (by rw [hb]; exact hdg)
    (fun vm₁ hW₁ => ⟨hf.1, hf.2, hPc (T.setVm vm₁) hT hW₁⟩) with ⟨v, vm₁, ⟨U', l2, c2, s2⟩, hW₁, X', ⟨g', mk, t, L, e1, e2, hq, h1, hL, h2, h3⟩, st⟩ | ⟨q, vm₁, ⟨U', l2, c2, s2⟩, hW₁, X', ⟨g', mk, t, L, E, ce, e1, e2, hq, hce, hcv, hcl, h1, hL, h2, h3⟩, st⟩
  · dsimp only [Pt.U, Pt.locs, Pt.cells, Pt.slots] at X' e1 e2 h1 h2 h3 st
    subst h1; subst h2; subst h3
    exact Or.inl ⟨v, (T.setVm vm₁).calling g' mk (Value.ref b :: As).toArray, t, U', L, hT, X', hL, e1, e2, hq, st⟩
  · dsimp only [Pt.U, Pt.locs, Pt.cells, Pt.slots] at X' e1 e2 h1 h2 h3 st hcl
    subst h1; subst h2; subst h3
    exact Or.inr ⟨q, (T.setVm vm₁).calling g' mk (Value.ref b :: As).toArray, t, U', L, E, ce, hT, X', hL, e1, e2, hq, hce, hcv, vx_cls hW₁ hcl, st⟩
theorem vx_runS (S : CallFix p m c cc nL s args Ts own) (hM : vx_Met l y ws rm Pc Qc XC mc ms free) (cw : CallB R s args own index y bytes maxL ret ws rm mc ms n ∧ (Cond.static y).before args s = true) (hp : PreS s H Pc As)
    (hg : g.method = m) (hn : As.length = n) (hsize : g.locals.size = nL) (hstack : g.stack = As.reverse ++ rest) (hW : 2 * g.monitorRoom + (rest.map fun v => v.category).sum ≤ 8) (hdg : decode cc g.pc = .ok (.invokestatic index, 3)) (hf : cells + mc ≤ R.cells ∧ slots + ms ≤ R.slots) :
    vx_Run p l e R s m args below meth c H locs cells slots mc ms g rest (Qc As.toArray) XC free := by
  have hK : vx_Back l R p e below s args y 3 8 (PreOf R mc ms Pc) (PostOf Qc mc ms free) (vx_Post XC mc ms free) := vx_callBack cw.1 hM hp.1
  obtain ⟨⟨-, -, -, -, -, -, hcode, hini, hy, hlen, hl⟩, hstt⟩ := cw
  obtain ⟨hx, hb, hml, ho, -⟩ := S
  intro T hT X
  rcases vx_callS X hx (bytes := bytes) (maxL := maxL) (ret := ret) ho hl hstt hini hcode hy hK hg (hsize.trans hml.symm) (argsL := As) (rest := rest) (fun sig h => hn.trans (hlen sig h)) hstack hW (by rw [hb]; exact hdg)
    (fun vm₁ hW₁ => ⟨hf.1, hf.2, hp.2 (T.setVm vm₁) hT hW₁⟩) with ⟨v, vm₁, ⟨U', l2, c2, s2⟩, hW₁, X', ⟨g', mk, t, L, e1, e2, hq, h1, hL, h2, h3⟩, st⟩ | ⟨q, vm₁, ⟨U', l2, c2, s2⟩, hW₁, X', ⟨g', mk, t, L, E, ce, e1, e2, hq, hce, hcv, hcl, h1, hL, h2, h3⟩, st⟩
  · dsimp only [Pt.U, Pt.locs, Pt.cells, Pt.slots] at X' e1 e2 h1 h2 h3 st
    subst h1; subst h2; subst h3
    exact Or.inl ⟨v, (T.setVm vm₁).calling g' mk As.toArray, t, U', L, hT, X', hL, e1, e2, hq, st⟩
  · dsimp only [Pt.U, Pt.locs, Pt.cells, Pt.slots] at X' e1 e2 h1 h2 h3 st hcl
    subst h1; subst h2; subst h3
    exact Or.inr ⟨q, (T.setVm vm₁).calling g' mk As.toArray, t, U', L, E, ce, hT, X', hL, e1, e2, hq, hce, hcv, vx_cls hW₁ hcl, st⟩
end Runs
section Rows
variable {p : Program} {l : Launch} {e : Env} {R : Room} {s : State} {m : MethodId} {args : Array Value} {below : List Frame} {meth : Method} {c : Code} {H : Heap} {locs : List Loc} {cells slots : Nat} {Q : State → Prop}
variable {mc ms : Nat} {free : Addr → Prop} {A0 A1 : Nat → Prop} {H0 : Heap} {a : Array Value} {pc : Nat} {ls : Array Slot} {st0 rest : List Value}
theorem vx_keep {st₀ t T' : State} {L : List Loc} (h0 : st₀.heap = H) (e1 : T'.heap = t.heap) (hS : va_S A0 H0 H locs) (hA : ∀ q, q < H.size → A1 q → A0 q) (hf : ∀ q, free q → A0 q) (hL : ∀ q ∈ L, free q.base) (hF : va_F A1 st₀ t) :
    H.size ≤ T'.heap.size ∧ (∀ q : Nat, q < H.size → ¬ A1 q → T'.heap[q]? = H[q]?) ∧ va_S A0 H0 T'.heap (locs ++ L) := by
  obtain ⟨hz, hk⟩ := hF
  rw [h0] at hz hk
  exact ⟨by rw [e1]; exact hz, fun q h1 h2 => by rw [e1]; exact hk q h1 h2,
    ⟨Nat.le_trans hS.1 (by rw [e1]; exact hz), fun q h1 h2 => by rw [e1, hk q (Nat.lt_of_lt_of_le h1 hS.1) (fun z => h2 (hA q (Nat.lt_of_lt_of_le h1 hS.1) z))]; exact hS.2.1 q h1 h2, fun q hq => by
      rcases List.mem_append.mp hq with h | h
      · exact hS.2.2 q h
      · exact hf _ (hL q h)⟩⟩
theorem vx_calli {S SX : Type} {post : Int32 → S → Prop} {px : SX → Prop} {B : S → State → Prop} {BX : String → SX → State → Prop} {AX : Nat → Prop} (hr : vx_Run p l e R s m args below meth c H locs cells slots mc ms (F0 m pc ls st0) rest (va_Qi post B A1 a) (vx_X px BX AX) free) (hS : va_S A0 H0 H locs) (hA : ∀ q, q < H.size → A1 q → A0 q) (hf : ∀ q, free q → A0 q) (hAX : ∀ q, q < H.size → AX q → A0 q)
    (kx : ∀ (E : String) (ce : Cell) (q9 : Addr) (u : SX) (t : State) (H1 : Heap) (locs1 : List Loc), t.heap = H1 → s.vm.Alike t.vm → px u → BX E u t → H.size ≤ H1.size → (∀ q : Nat, q < H.size → ¬ AX q → H1[q]? = H[q]?) → va_S A0 H0 H1 locs1 → H1[q9]? = some ce → ce.vm = .none → s.vm.findClass E = some ce.cls → vx_W p l e R s m args below meth c H1 locs1 (cells + mc) (slots + ms) Q (F0 m pc ls rest) q9)
    (kk : ∀ (r : Int32) (u : S) (t : State) (H1 : Heap) (locs1 : List Loc), t.heap = H1 → s.vm.Alike t.vm → post r u → B u t → H.size ≤ H1.size → (∀ q : Nat, q < H.size → ¬ A1 q → H1[q]? = H[q]?) → va_S A0 H0 H1 locs1 → W p l e R s m args below meth c H1 locs1 (cells + mc) (slots + ms) Q (F0 m (pc + 3) ls (.int r :: rest))) : W p l e R s m args below meth c H locs cells slots Q (F0 m pc ls st0) := by
  intro T hT X
  rcases hr T hT X with ⟨v, st₀, t, T', L, h0, X', hL, e1, e2, ⟨⟨r, u, hv, hp, hb⟩, hF⟩, st⟩ | ⟨q, st₀, t, T', L, E, ce, h0, X', hL, e1, e2, ⟨u, hp, hb, hF⟩, hce, hcv, hcl, st⟩
  · cases hv
    obtain ⟨k1, k2, k3⟩ := vx_keep h0 e1 hS hA hf hL hF
    obtain ⟨t2, a1, b1⟩ := kk r u t T'.heap (locs ++ L) e1.symm (by rw [← e2]; exact X'.warmed.alike) hp hb k1 k2 k3 T' rfl X'
    exact ⟨t2, st t2 a1, b1⟩
  · obtain ⟨k1, k2, k3⟩ := vx_keep h0 e1 hS hAX hf hL hF
    obtain ⟨t2, a1, b1⟩ := kx E ce q u t T'.heap (locs ++ L) e1.symm (by rw [← e2]; exact X'.warmed.alike) hp hb k1 k2 k3 (by rw [e1]; exact hce) hcv hcl T' rfl X'
    exact ⟨t2, st.trans a1, b1⟩
theorem vx_calll {S SX : Type} {post : Int64 → S → Prop} {px : SX → Prop} {B : S → State → Prop} {BX : String → SX → State → Prop} {AX : Nat → Prop} (hr : vx_Run p l e R s m args below meth c H locs cells slots mc ms (F0 m pc ls st0) rest (va_Ql post B A1 a) (vx_X px BX AX) free) (hS : va_S A0 H0 H locs) (hA : ∀ q, q < H.size → A1 q → A0 q) (hf : ∀ q, free q → A0 q) (hAX : ∀ q, q < H.size → AX q → A0 q)
    (kx : ∀ (E : String) (ce : Cell) (q9 : Addr) (u : SX) (t : State) (H1 : Heap) (locs1 : List Loc), t.heap = H1 → s.vm.Alike t.vm → px u → BX E u t → H.size ≤ H1.size → (∀ q : Nat, q < H.size → ¬ AX q → H1[q]? = H[q]?) → va_S A0 H0 H1 locs1 → H1[q9]? = some ce → ce.vm = .none → s.vm.findClass E = some ce.cls → vx_W p l e R s m args below meth c H1 locs1 (cells + mc) (slots + ms) Q (F0 m pc ls rest) q9)
    (kk : ∀ (r : Int64) (u : S) (t : State) (H1 : Heap) (locs1 : List Loc), t.heap = H1 → s.vm.Alike t.vm → post r u → B u t → H.size ≤ H1.size → (∀ q : Nat, q < H.size → ¬ A1 q → H1[q]? = H[q]?) → va_S A0 H0 H1 locs1 → W p l e R s m args below meth c H1 locs1 (cells + mc) (slots + ms) Q (F0 m (pc + 3) ls (.long r :: rest))) : W p l e R s m args below meth c H locs cells slots Q (F0 m pc ls st0) := by
  intro T hT X
  rcases hr T hT X with ⟨v, st₀, t, T', L, h0, X', hL, e1, e2, ⟨⟨r, u, hv, hp, hb⟩, hF⟩, st⟩ | ⟨q, st₀, t, T', L, E, ce, h0, X', hL, e1, e2, ⟨u, hp, hb, hF⟩, hce, hcv, hcl, st⟩
  · cases hv
    obtain ⟨k1, k2, k3⟩ := vx_keep h0 e1 hS hA hf hL hF
    obtain ⟨t2, a1, b1⟩ := kk r u t T'.heap (locs ++ L) e1.symm (by rw [← e2]; exact X'.warmed.alike) hp hb k1 k2 k3 T' rfl X'
    exact ⟨t2, st t2 a1, b1⟩
  · obtain ⟨k1, k2, k3⟩ := vx_keep h0 e1 hS hAX hf hL hF
    obtain ⟨t2, a1, b1⟩ := kx E ce q u t T'.heap (locs ++ L) e1.symm (by rw [← e2]; exact X'.warmed.alike) hp hb k1 k2 k3 (by rw [e1]; exact hce) hcv hcl T' rfl X'
    exact ⟨t2, st.trans a1, b1⟩
theorem vx_callf {S SX : Type} {post : UInt32 → S → Prop} {px : SX → Prop} {B : S → State → Prop} {BX : String → SX → State → Prop} {AX : Nat → Prop} (hr : vx_Run p l e R s m args below meth c H locs cells slots mc ms (F0 m pc ls st0) rest (va_Qf post B A1 a) (vx_X px BX AX) free) (hS : va_S A0 H0 H locs) (hA : ∀ q, q < H.size → A1 q → A0 q) (hf : ∀ q, free q → A0 q) (hAX : ∀ q, q < H.size → AX q → A0 q)
    (kx : ∀ (E : String) (ce : Cell) (q9 : Addr) (u : SX) (t : State) (H1 : Heap) (locs1 : List Loc), t.heap = H1 → s.vm.Alike t.vm → px u → BX E u t → H.size ≤ H1.size → (∀ q : Nat, q < H.size → ¬ AX q → H1[q]? = H[q]?) → va_S A0 H0 H1 locs1 → H1[q9]? = some ce → ce.vm = .none → s.vm.findClass E = some ce.cls → vx_W p l e R s m args below meth c H1 locs1 (cells + mc) (slots + ms) Q (F0 m pc ls rest) q9)
    (kk : ∀ (r : UInt32) (u : S) (t : State) (H1 : Heap) (locs1 : List Loc), t.heap = H1 → s.vm.Alike t.vm → post r u → B u t → H.size ≤ H1.size → (∀ q : Nat, q < H.size → ¬ A1 q → H1[q]? = H[q]?) → va_S A0 H0 H1 locs1 → W p l e R s m args below meth c H1 locs1 (cells + mc) (slots + ms) Q (F0 m (pc + 3) ls (.float r :: rest))) : W p l e R s m args below meth c H locs cells slots Q (F0 m pc ls st0) := by
  intro T hT X
  rcases hr T hT X with ⟨v, st₀, t, T', L, h0, X', hL, e1, e2, ⟨⟨r, u, hv, hp, hb⟩, hF⟩, st⟩ | ⟨q, st₀, t, T', L, E, ce, h0, X', hL, e1, e2, ⟨u, hp, hb, hF⟩, hce, hcv, hcl, st⟩
  · cases hv
    obtain ⟨k1, k2, k3⟩ := vx_keep h0 e1 hS hA hf hL hF
    obtain ⟨t2, a1, b1⟩ := kk r u t T'.heap (locs ++ L) e1.symm (by rw [← e2]; exact X'.warmed.alike) hp hb k1 k2 k3 T' rfl X'
    exact ⟨t2, st t2 a1, b1⟩
  · obtain ⟨k1, k2, k3⟩ := vx_keep h0 e1 hS hAX hf hL hF
    obtain ⟨t2, a1, b1⟩ := kx E ce q u t T'.heap (locs ++ L) e1.symm (by rw [← e2]; exact X'.warmed.alike) hp hb k1 k2 k3 (by rw [e1]; exact hce) hcv hcl T' rfl X'
    exact ⟨t2, st.trans a1, b1⟩
theorem vx_calld {S SX : Type} {post : UInt64 → S → Prop} {px : SX → Prop} {B : S → State → Prop} {BX : String → SX → State → Prop} {AX : Nat → Prop} (hr : vx_Run p l e R s m args below meth c H locs cells slots mc ms (F0 m pc ls st0) rest (va_Qd post B A1 a) (vx_X px BX AX) free) (hS : va_S A0 H0 H locs) (hA : ∀ q, q < H.size → A1 q → A0 q) (hf : ∀ q, free q → A0 q) (hAX : ∀ q, q < H.size → AX q → A0 q)
    (kx : ∀ (E : String) (ce : Cell) (q9 : Addr) (u : SX) (t : State) (H1 : Heap) (locs1 : List Loc), t.heap = H1 → s.vm.Alike t.vm → px u → BX E u t → H.size ≤ H1.size → (∀ q : Nat, q < H.size → ¬ AX q → H1[q]? = H[q]?) → va_S A0 H0 H1 locs1 → H1[q9]? = some ce → ce.vm = .none → s.vm.findClass E = some ce.cls → vx_W p l e R s m args below meth c H1 locs1 (cells + mc) (slots + ms) Q (F0 m pc ls rest) q9)
    (kk : ∀ (r : UInt64) (u : S) (t : State) (H1 : Heap) (locs1 : List Loc), t.heap = H1 → s.vm.Alike t.vm → post r u → B u t → H.size ≤ H1.size → (∀ q : Nat, q < H.size → ¬ A1 q → H1[q]? = H[q]?) → va_S A0 H0 H1 locs1 → W p l e R s m args below meth c H1 locs1 (cells + mc) (slots + ms) Q (F0 m (pc + 3) ls (.double r :: rest))) : W p l e R s m args below meth c H locs cells slots Q (F0 m pc ls st0) := by
  intro T hT X
  rcases hr T hT X with ⟨v, st₀, t, T', L, h0, X', hL, e1, e2, ⟨⟨r, u, hv, hp, hb⟩, hF⟩, st⟩ | ⟨q, st₀, t, T', L, E, ce, h0, X', hL, e1, e2, ⟨u, hp, hb, hF⟩, hce, hcv, hcl, st⟩
  · cases hv
    obtain ⟨k1, k2, k3⟩ := vx_keep h0 e1 hS hA hf hL hF
    obtain ⟨t2, a1, b1⟩ := kk r u t T'.heap (locs ++ L) e1.symm (by rw [← e2]; exact X'.warmed.alike) hp hb k1 k2 k3 T' rfl X'
    exact ⟨t2, st t2 a1, b1⟩
  · obtain ⟨k1, k2, k3⟩ := vx_keep h0 e1 hS hAX hf hL hF
    obtain ⟨t2, a1, b1⟩ := kx E ce q u t T'.heap (locs ++ L) e1.symm (by rw [← e2]; exact X'.warmed.alike) hp hb k1 k2 k3 (by rw [e1]; exact hce) hcv hcl T' rfl X'
    exact ⟨t2, st.trans a1, b1⟩
theorem vx_callv {S SX : Type} {post : S → Prop} {px : SX → Prop} {B : S → State → Prop} {BX : String → SX → State → Prop} {AX : Nat → Prop} (hr : vx_Run p l e R s m args below meth c H locs cells slots mc ms (F0 m pc ls st0) rest (va_Qv post B A1 a) (vx_X px BX AX) free) (hS : va_S A0 H0 H locs) (hA : ∀ q, q < H.size → A1 q → A0 q) (hf : ∀ q, free q → A0 q) (hAX : ∀ q, q < H.size → AX q → A0 q)
    (kx : ∀ (E : String) (ce : Cell) (q9 : Addr) (u : SX) (t : State) (H1 : Heap) (locs1 : List Loc), t.heap = H1 → s.vm.Alike t.vm → px u → BX E u t → H.size ≤ H1.size → (∀ q : Nat, q < H.size → ¬ AX q → H1[q]? = H[q]?) → va_S A0 H0 H1 locs1 → H1[q9]? = some ce → ce.vm = .none → s.vm.findClass E = some ce.cls → vx_W p l e R s m args below meth c H1 locs1 (cells + mc) (slots + ms) Q (F0 m pc ls rest) q9)
    (kk : ∀ (u : S) (t : State) (H1 : Heap) (locs1 : List Loc), t.heap = H1 → s.vm.Alike t.vm → post u → B u t → H.size ≤ H1.size → (∀ q : Nat, q < H.size → ¬ A1 q → H1[q]? = H[q]?) → va_S A0 H0 H1 locs1 → W p l e R s m args below meth c H1 locs1 (cells + mc) (slots + ms) Q (F0 m (pc + 3) ls (rest))) : W p l e R s m args below meth c H locs cells slots Q (F0 m pc ls st0) := by
  intro T hT X
  rcases hr T hT X with ⟨v, st₀, t, T', L, h0, X', hL, e1, e2, ⟨⟨u, hv, hp, hb⟩, hF⟩, st⟩ | ⟨q, st₀, t, T', L, E, ce, h0, X', hL, e1, e2, ⟨u, hp, hb, hF⟩, hce, hcv, hcl, st⟩
  · cases hv
    obtain ⟨k1, k2, k3⟩ := vx_keep h0 e1 hS hA hf hL hF
    obtain ⟨t2, a1, b1⟩ := kk u t T'.heap (locs ++ L) e1.symm (by rw [← e2]; exact X'.warmed.alike) hp hb k1 k2 k3 T' rfl X'
    exact ⟨t2, st t2 a1, b1⟩
  · obtain ⟨k1, k2, k3⟩ := vx_keep h0 e1 hS hAX hf hL hF
    obtain ⟨t2, a1, b1⟩ := kx E ce q u t T'.heap (locs ++ L) e1.symm (by rw [← e2]; exact X'.warmed.alike) hp hb k1 k2 k3 (by rw [e1]; exact hce) hcv hcl T' rfl X'
    exact ⟨t2, st.trans a1, b1⟩
/-- caught by the row x of this method's table; the rows ahead don't take it -/
theorem vx_catch {own name : String} {E : String} {ce : Cell} {q : Addr} (hown : s.vm.findClass own = some m.cls) (pre : List ExceptionTableEntry) (x : ExceptionTableEntry) (suf : List ExceptionTableEntry) (hsplit : c.exceptionTable.toList = pre ++ x :: suf)
    (hpass : ∀ z ∈ pre, covers z pc = false ∨ (z.catchType ≠ 0 ∧ ∃ nm : String, (Cond.classLink own z.catchType nm).before args s = true ∧ va_Nc E nm s)) (hx : covers x pc = true) (h0 : x.catchType ≠ 0)
    (hlink : (Cond.classLink own x.catchType name).before args s = true) (hcast : (Cond.castable E name).before args s = true) (hcell : H[q]? = some ce) (hv : ce.vm = .none) (hcl : s.vm.findClass E = some ce.cls)
    (kk : W p l e R s m args below meth c H locs cells slots Q (F0 m x.handlerPc ls [.ref q])) : vx_W p l e R s m args below meth c H locs cells slots Q (F0 m pc ls rest) q := by
  intro T hT X
  have hpl : e.platform.magicAccessors = ({} : Platform).magicAccessors := by rw [X.admits.platform]
  obtain ⟨c3, c4, hc3, hc4, hasg⟩ := Cond.castable_spec hcast
  cases Option.some.inj (hc3.symm.trans hcl)
  obtain ⟨c5, hc5, hcl5⟩ := Cond.classLink_spec hown hlink e.platform hpl
  cases Option.some.inj (hc4.symm.trans hc5)
  obtain ⟨vm', X', st⟩ := X.thenCaughtThrough q (g := F0 m pc ls rest) rfl (Steps.refl _) (by rw [hT]; exact hcell) (by rw [hv]; rfl) (by obtain ⟨k9, h9, -⟩ := Vm.findClass_spec hcl; exact ⟨k9, h9⟩) pre x suf hsplit
    (fun z hz => by
      rcases hpass z hz with h | ⟨hz0, nm, hl1, hn1⟩
      · exact Or.inl h
      · obtain ⟨c6, hc6, hcl6⟩ := Cond.classLink_spec hown hl1 e.platform hpl
        obtain ⟨a8, b8, h1, h2, h3⟩ := hn1
        cases Option.some.inj (h1.symm.trans hcl)
        cases Option.some.inj (h2.symm.trans hc6)
        exact Or.inr ⟨hz0, _, hcl6, h3⟩) hx (Or.inr ⟨h0, c4, hcl5, hasg⟩)
  obtain ⟨t, a1, b1⟩ := kk (T.setVm vm') hT X'
  exact ⟨t, st.trans a1, b1⟩
end Rows
section Ends
variable {p : Program} {l : Launch} {e : Env} {R : Room} {s : State} {m : MethodId} {args : Array Value} {below : List Frame} {meth : Method} {c : Code} {H : Heap} {locs : List Loc} {cells slots : Nat} {Q : State → Prop}
variable {mc ms : Nat} {free : Addr → Prop} {A0 A1 : Nat → Prop} {H0 : Heap} {a : Array Value} {ls : Array Slot} {st0 rest : List Value}
variable {Qc : Array Value → State → Outcome → State → Prop} {XC : String → State → State → Prop}
/-- what a body that may throw owes at its end -/
def vx_MQ (below : List Frame) (Qc : Array Value → State → Outcome → State → Prop) (XC : String → State → State → Prop) (a : Array Value) (s : State) (mc ms : Nat) (free : Addr → Prop) : State → Prop := fun t =>
  ∃ o, t.status = .running ∧ Ended t below o ∧ vx_Q Qc XC mc ms free a s o t
theorem vx_ret {g : JFrame} {mc ms : Nat} (k : W p l e R s m args below meth c H locs cells slots (MQ below Qc args s mc ms free) g) : W p l e R s m args below meth c H locs cells slots (vx_MQ below Qc XC args s mc ms free) g := by
  intro T hT X
  obtain ⟨t, a1, o, b1, b2, b3, b4⟩ := k T hT X
  exact ⟨t, a1, o, b1, b2, Or.inl ⟨b3, b4⟩⟩
/-- not caught here: it goes on to the caller -/
theorem vx_widen {g : JFrame} {q : Addr} {k n : Nat} (h1 : cells ≤ k) (h2 : slots ≤ n) (kk : vx_W p l e R s m args below meth c H locs k n Q g q) : vx_W p l e R s m args below meth c H locs cells slots Q g q := fun T hT X => kk T hT (stand_widen X h1 h2)
theorem vx_out {pc : Nat} {E : String} {ce : Cell} {q : Addr} {mc ms : Nat} (hout : ∀ x ∈ c.exceptionTable.toList, covers x pc = false) (hlocks : meth.locks = false) (hcell : H[q]? = some ce) (hv : ce.vm = .none) (hcl : s.vm.findClass E = some ce.cls)
    (hx : ∀ t : State, t.heap = H → s.vm.Alike t.vm → XC E s t) (hf : ∀ z ∈ locs, free z.base) (hc : cells ≤ mc) (hs : slots ≤ ms) :
    vx_W p l e R s m args below meth c H locs cells slots (vx_MQ below Qc XC args s mc ms free) (F0 m pc ls rest) q := by
  intro T hT X
  obtain ⟨st1, hrun, hend, hW, hsm⟩ := X.leaveThrown q (g := F0 m pc ls rest) rfl rfl rfl hout hlocks
  have hcell9 : (T.setFrames (.throwing q :: below)).heap[q]? = some ce := by
    show T.heap[q]? = some ce
    rw [hT]; exact hcell
  exact ⟨_, st1, .threw q, hrun, hend, Or.inr ⟨q, rfl, E, ce, locs, hx _ hT hW.alike, hcell9, hv, hcl, hW, hsm.mono hc hs, hf⟩⟩
theorem vx_frame {U : State} {k n : Nat} (h : s.sameButNew ({ U with vm := s.vm } : State) locs k n) : s.heap.size ≤ U.heap.size ∧ ∀ q : Nat, q < s.heap.size → (∀ z ∈ locs, z.base ≠ q) → U.heap[q]? = s.heap[q]? := by
  obtain ⟨-, h2, -, -, -, h6⟩ := h
  refine ⟨h2, fun q hq hz => ?_⟩
  obtain ⟨c9, e1, e2, e3, e4⟩ := h6 q _ (Array.getElem?_eq_getElem hq)
  have hs : c9.slots = (s.heap[q]).slots := Array.ext_getElem? fun i => e4 i fun hm => hz _ hm rfl
  have h9 : c9 = s.heap[q] := by
    rw [hs] at e2
    exact e2
  have e5 : U.heap[q]? = some c9 := e1
  rw [e5, h9, Array.getElem?_eq_getElem hq]
/-- the words of a throw but the four that speak of the heap -/
def vx_no (w : Cond) : Bool := decide (w ≠ .isRef (.static Bundle.tN "UNASSIGNED_STACK" Bundle.steD)) && decide (w ≠ .isRef (.static Bundle.tN "SUPPRESSED_SENTINEL" Bundle.listD)) && decide (w ≠ .laysStatic Bundle.tN "UNASSIGNED_STACK" Bundle.steD) && decide (w ≠ .laysStatic Bundle.tN "SUPPRESSED_SENTINEL" Bundle.listD)
def vx_at0 (own : String) (ic : Nat) (X : String) (names : List String) : List Cond := (Bundle.ownAtoms0 own ic X names).filter vx_no
def vx_atS (own : String) (ic : Nat) (X : String) (names : List String) : List Cond := (Bundle.ownAtoms own ic X names).filter vx_no
/-- a word that the tables alone decide, or a good one -/
def vx_ot (w : Cond) : Bool := w.onTables || goodWord w
theorem vx_ot_at {args a' : Array Value} {s U : State} {w : Cond} (hW : s.WarmedH U.vm) (hvm : s.vm = U.vm) (hg : vx_ot w = true) (h : w.before args s = true) : w.before a' U = true := by
  simp only [vx_ot, Bool.or_eq_true] at hg
  rcases hg with hg | hg
  · exact va_tabs hg hvm h
  · exact word_at hW (good_of_word hg) h
/-- a list's words: the good ones out of the method's own list, the others by premises of their own -/
theorem vx_hat {args : Array Value} {s : State} {L B : List Cond} (h1 : ∀ w ∈ L.filter goodWord, w.before args s = true) (h2 : ∀ w ∈ L.filter (fun w => !goodWord w), w ∈ B) (h3 : ∀ w ∈ B, w.before args s = true) : ∀ w ∈ L, w.before args s = true := by
  intro w hw
  by_cases g : goodWord w = true
  · exact h1 w (List.mem_filter.mpr ⟨hw, g⟩)
  · refine h3 w (h2 w (List.mem_filter.mpr ⟨hw, ?_⟩))
    show (!goodWord w) = true
    cases hgw : goodWord w
    · rfl
    · exact absurd hgw g
theorem vx_c {args : Array Value} {s : State} {w : Cond} {B : List Cond} (h : w.before args s = true) (t : ∀ w ∈ B, w.before args s = true) : ∀ w' ∈ w :: B, w'.before args s = true := fun w' h' => (List.mem_cons.mp h').elim (fun e => by rw [e]; exact h) (t w')
theorem vx_n {args : Array Value} {s : State} : ∀ w ∈ ([] : List Cond), w.before args s = true := fun _ h => nomatch h
theorem vx_own {args : Array Value} {s : State} {L : List Cond} (h1 : ∀ w ∈ L.filter vx_no, w.before args s = true)
    (hU : (Cond.isRef (.static Bundle.tN "UNASSIGNED_STACK" Bundle.steD)).before args s = true) (hN : (Cond.isRef (.static Bundle.tN "SUPPRESSED_SENTINEL" Bundle.listD)).before args s = true)
    (lU : (Cond.laysStatic Bundle.tN "UNASSIGNED_STACK" Bundle.steD).before args s = true) (lN : (Cond.laysStatic Bundle.tN "SUPPRESSED_SENTINEL" Bundle.listD).before args s = true) : ∀ w ∈ L, w.before args s = true := by
  intro w hw
  by_cases e1 : w = .isRef (.static Bundle.tN "UNASSIGNED_STACK" Bundle.steD)
  · rw [e1]; exact hU
  · by_cases e2 : w = .isRef (.static Bundle.tN "SUPPRESSED_SENTINEL" Bundle.listD)
    · rw [e2]; exact hN
    · by_cases e3 : w = .laysStatic Bundle.tN "UNASSIGNED_STACK" Bundle.steD
      · rw [e3]; exact lU
      · by_cases e4 : w = .laysStatic Bundle.tN "SUPPRESSED_SENTINEL" Bundle.listD
        · rw [e4]; exact lN
        · exact h1 w (List.mem_filter.mpr ⟨hw, by unfold vx_no; rw [decide_eq_true e1, decide_eq_true e2, decide_eq_true e3, decide_eq_true e4]; rfl⟩)
/-- where a static field lies, its class's statics cell in H -/
def vx_L (C n d : String) (A : Nat → Prop) (U : State) (H : Heap) : Prop := ∃ (c : ClassId) (k : Class) (i : Nat) (f : Field) (a : Nat) (cell : Cell), U.vm.findClass C = some c ∧ U.fieldFound? C n d = some (c, k, i, f) ∧ f.isStatic = true ∧ k.statics = some a ∧ H[a]? = some cell ∧ cell.vm.isStatics = true ∧ cell.cls = c ∧ f.slot < cell.slots.size ∧ k.staticTypes[f.slot]? = some f.type ∧ ¬ A a
theorem vx_L.moved {C n d : String} {A : Nat → Prop} {u U : State} {H : Heap} (hvm : u.vm.Alike U.vm) (h : vx_L C n d A u H) : vx_L C n d A U H := by
  obtain ⟨c, k, i, f, a, cell, h1, h2, h3, h4, h5, h6, h7, h8, h9, h10⟩ := h
  obtain ⟨k', hi', he⟩ := State.fieldFound?_setVm hvm h2
  exact ⟨c, k', i, f, a, cell, by rw [hvm.findClass]; exact h1, hi', h3, by rw [he]; exact h4, h5, h6, h7, h8, by rw [he]; exact h9, h10⟩
theorem vx_L.kept {C n d : String} {A : Nat → Prop} {U : State} {H H1 : Heap} (h : vx_L C n d A U H) (hq : ∀ a : Nat, a < H.size → ¬ A a → H1[a]? = H[a]?) : vx_L C n d A U H1 := by
  obtain ⟨c, k, i, f, a, cell, h1, h2, h3, h4, h5, h6, h7, h8, h9, h10⟩ := h
  exact ⟨c, k, i, f, a, cell, h1, h2, h3, h4, by rw [hq a (Array.getElem?_eq_some_iff.mp h5).1 h10]; exact h5, h6, h7, h8, h9, h10⟩
theorem vx_L.narrow {C n d : String} {A B : Nat → Prop} {U : State} {H : Heap} (h : vx_L C n d A U H) (hAB : ∀ q, B q → A q) : vx_L C n d B U H := by
  obtain ⟨c, k, i, f, a, cell, h1, h2, h3, h4, h5, h6, h7, h8, h9, h10⟩ := h
  exact ⟨c, k, i, f, a, cell, h1, h2, h3, h4, h5, h6, h7, h8, h9, fun z => h10 (hAB _ z)⟩
theorem vx_L.word {C n d : String} {A : Nat → Prop} {s : State} {args : Array Value} (h : vx_L C n d A s s.heap) : (Cond.laysStatic C n d).before args s = true := by
  obtain ⟨c, k, i, f, a, cell, h1, h2, h3, h4, h5, h6, h7, h8, h9, -⟩ := h
  show (Cond.laysStatic C n d).holds args s none s [] = true
  exact Cond.laysStatic_of h1 h2 h3 h4 h5 h6 h7 h8 h9
/-- .. and what it holds: null or some reference -/
def vx_Zq (C n d : String) (A : Nat → Prop) (U : State) (H : Heap) : Prop := va_Zq C n d A U H ∧ vx_L C n d A U H
theorem vx_Zq.moved {C n d : String} {A : Nat → Prop} {u U : State} {H : Heap} (hvm : u.vm.Alike U.vm) (h : vx_Zq C n d A u H) : vx_Zq C n d A U H := ⟨va_Zq.moved hvm h.1, vx_L.moved hvm h.2⟩
theorem vx_Zq.kept {C n d : String} {A : Nat → Prop} {U : State} {H H1 : Heap} (h : vx_Zq C n d A U H) (hq : ∀ a : Nat, a < H.size → ¬ A a → H1[a]? = H[a]?) : vx_Zq C n d A U H1 := ⟨va_Zq.kept h.1 hq, vx_L.kept h.2 hq⟩
theorem vx_Zq.narrow {C n d : String} {A B : Nat → Prop} {U : State} {H : Heap} (h : vx_Zq C n d A U H) (hAB : ∀ q, B q → A q) : vx_Zq C n d B U H := ⟨va_Zq.narrow h.1 hAB, vx_L.narrow h.2 hAB⟩
theorem vx_Zqof {args : Array Value} {s : State} {C n d : String} {A : Nat → Prop} (hl : (Cond.laysStatic C n d).before args s = true) (hini : (Cond.initialized C).before args s = true) (h : (Cond.isRef (.static C n d)).before args s = true) (hA : ∀ a : Nat, a < s.heap.size → ¬ A a) : vx_Zq C n d A s s.heap := by
  refine ⟨va_Zqof hl hini h hA, ?_⟩
  obtain ⟨c, k, i, f, a, cell, h1, h2, h3, h4, h5, h6, h7, h8, h9⟩ := Cond.laysStatic_spec hl
  exact ⟨c, k, i, f, a, cell, h1, h2, h3, h4, h5, h6, h7, h8, h9, hA a (Array.getElem?_eq_some_iff.mp h5).1⟩
theorem vx_isRef {C n d : String} {v : Value} {A : Nat → Prop} {s : State} {args : Array Value} (h : va_Z C n d v A s s.heap) (hv : v.isRef = true) : (Cond.isRef (.static C n d)).before args s = true := by
  obtain ⟨cf, kf, fi, f, a, cell, h1, h2, h3, h4, h5, h6, h7, -⟩ := h
  have he : (Term.static C n d).eval args s none [] s = some v := by
    simp [Term.eval, State.fieldNamed?, h1, h2, h4, h5, h6, h7]
  simp only [Cond.before, Cond.holds, Cond.value, he]
  cases v <;> simp_all [Value.isRef]
theorem vx_isRefq {C n d : String} {A : Nat → Prop} {s : State} {args : Array Value} (h : va_Zq C n d A s s.heap) : (Cond.isRef (.static C n d)).before args s = true := by
  rcases h with h | ⟨t, h⟩
  · exact vx_isRef h rfl
  · exact vx_isRef h rfl
/-- the same frame, seen from here: as if the method were called anew in this heap -/
theorem vx_rebase {T : State} (X : Stand p l e R s m args below meth c T locs cells slots) {R' : Room} (hf : R'.frames ≤ R.frames) (hl : R'.locals ≤ R.locals) (hc : cells + R'.cells ≤ R.cells) (hs : slots + R'.slots ≤ R.slots) :
    Stand p l e R' ((T.setVm s.vm).setFrames (.invoking m args :: below)) m args below meth c T [] 0 0 := by
  have htop : (T.setVm s.vm).topJava?.isSome := X.here.top
  have hF : ((T.setVm s.vm).setFrames (.invoking m args :: below)).frames = .invoking m args :: below := State.frames_setFrames _ (State.cur_lt_of_top htop)
  obtain ⟨g₀, hg0⟩ := Option.isSome_iff_exists.mp htop
  obtain ⟨r, hr⟩ := State.topJava?_eq_some.mp hg0
  have hl9 : e.platform.stackLimits (T.setVm s.vm).me = e.platform.stackLimits s.me := X.limits
  have hb9 : (T.setVm s.vm).me.stackBytes = s.me.stackBytes := X.bytes
  refine ⟨X.admits, X.cas, X.clock, hF, ?_, X.hears, X.method, X.code, X.here, X.tail, X.warmed, ?_, ?_, ?_⟩
  · have h := X.room
    have hU : ((T.setVm s.vm).setFrames (.invoking m args :: below)).localsInUse = s.localsInUse := by
      rw [State.localsInUse_invoking hF (meth := meth) (c := c) X.method X.code, State.localsInUse_invoking X.frames X.method X.code]
    simp only [State.hasRoom, Bool.and_eq_true, decide_eq_true_eq] at h ⊢
    obtain ⟨⟨⟨⟨h1, h2, h3, h4, h5, h6⟩, h7⟩, h8⟩, h9⟩ := h
    rw [X.frames, List.length_cons] at h2 h3
    have q1 := X.heapSize
    have q2 := X.used
    simp only [hF, hU, List.length_cons, State.stackLimits_setFrames, State.stackBytes_setFrames, hl9, hb9]
    refine ⟨⟨⟨⟨by omega, by omega, by omega, by omega, by omega, h6⟩, ?_⟩, ?_⟩, X.book⟩
    · show T.heap.size + R'.cells ≤ e.platform.maxCells
      omega
    · show T.slotsUsed + R'.slots ≤ e.platform.maxSlots
      omega
  · rw [State.stackLimits_setFrames]; rfl
  · rw [State.stackBytes_setFrames]; rfl
  · refine ⟨?_, Nat.le_refl _, Nat.le_refl _, ?_, ?_, fun a c9 h9 => ⟨c9, h9, rfl, rfl, fun _ _ => rfl⟩⟩
    · obtain ⟨t, ht, -⟩ := State.frames_cons hr
      show T.setVm s.vm = { ((T.setVm s.vm).setFrames (.invoking m args :: below)).setFrames (T.setVm s.vm).frames with heap := T.heap, slotsUsed := T.slotsUsed }
      rw [State.setFrames_setFrames, State.setFrames_self ht]
      rfl
    · show T.slotsUsed = T.slotsUsed + ((T.heap.toList.drop T.heap.size).map (·.slots.size)).sum
      rw [List.drop_eq_nil_of_le (Nat.le_of_eq Array.length_toList)]
      rfl
    · show ((T.heap.toList.drop T.heap.size).map (·.slots.size)).sum ≤ 0
      rw [List.drop_eq_nil_of_le (Nat.le_of_eq Array.length_toList)]
      exact Nat.le_refl _
/-- 'throw new E()': new; dup; invokespecial; athrow -/
theorem vx_throw0 {cc : ByteArray} {pc : Nat} (hexec : p.tables.exec = Jvm.exec) (hb : c.code = cc) (hl : l.stackTraces = false) {own cls : String} {names : List String} {ik ic mc ms : Nat} {A : Nat → Prop}
    (hown : s.vm.findClass own = some m.cls) (hcls : Bundle.fit cls = true) (hnames : ∀ n ∈ names, Bundle.fit n = true)
    (hk : (Cond.classLink own ik cls).before args s = true) (hini : (Cond.initialized cls).before args s = true) (hat : ∀ w ∈ vx_at0 own ic cls names, w.before args s = true)
    (hgood : ∀ w ∈ Cond.classLink own ik cls :: Cond.initialized cls :: vx_at0 own ic cls names, vx_ot w = true)
    (hU : vx_Zq Bundle.tN "UNASSIGNED_STACK" Bundle.steD A s s.heap) (hN : vx_Zq Bundle.tN "SUPPRESSED_SENTINEL" Bundle.listD A s s.heap) (hS : va_S A s.heap H locs) (hsize : ls.size = c.maxLocals)
    (d0 : decode cc pc = .ok (.new ik, 3)) (d3 : decode cc (pc + 3) = .ok (.dup, 1)) (d4 : decode cc (pc + 4) = .ok (.invokespecial ic, 3)) (d7 : decode cc (pc + 7) = .ok (.athrow, 1))
    (hout : ∀ x ∈ c.exceptionTable.toList, covers x (pc + 7) = false)
    (hRframes : names.length + 3 < R.frames) (hRlocals : (rest.map fun v => v.category).sum + (13 * (names.length + 1) + 42) ≤ R.locals) (hRcells : cells + 1 ≤ R.cells) (hRslots : slots + 6 ≤ R.slots) (hlocks : meth.locks = false)
    (hx : ∀ t : State, s.vm.Alike t.vm → H.size ≤ t.heap.size → (∀ q : Nat, q < H.size → t.heap[q]? = H[q]?) → XC cls s t)
    (hf : ∀ z ∈ locs, free z.base) (hc : cells + 1 ≤ mc) (hs : slots + 6 ≤ ms) :
    W p l e R s m args below meth c H locs cells slots (vx_MQ below Qc XC args s mc ms free) (F0 m pc ls rest) := by
  intro T hT X
  have htr : e.platform.stackTraces = false := (show e.platform.stackTraces = l.stackTraces by rw [X.admits.platform]).trans hl
  have Y := vx_rebase X (R' := { frames := R.frames, locals := R.locals, cells := 1, slots := 6 }) (Nat.le_refl _) (Nat.le_refl _) hRcells hRslots
  obtain ⟨s', hA⟩ : ∃ z, z = (T.setVm s.vm).setFrames (.invoking m args :: below) := ⟨_, rfl⟩
  rw [← hA] at Y
  have hvm : s'.vm = s.vm := by rw [hA]; rfl
  have hhp : s'.heap = H := by rw [hA]; exact hT
  have hW0 : s.WarmedH s'.vm := by rw [hvm]; exact State.WarmedH.refl s
  have hat' : ∀ w ∈ vx_at0 own ic cls names, w.before args s' = true := fun w hw => vx_ot_at hW0 hvm.symm (hgood w (List.mem_cons_of_mem _ (List.mem_cons_of_mem _ hw))) (hat w hw)
  have hk' : (Cond.classLink own ik cls).before args s' = true := vx_ot_at hW0 hvm.symm (hgood _ List.mem_cons_self) hk
  have hini' : (Cond.initialized cls).before args s' = true := vx_ot_at hW0 hvm.symm (hgood _ (List.mem_cons_of_mem _ List.mem_cons_self)) hini
  have hU' : vx_Zq Bundle.tN "UNASSIGNED_STACK" Bundle.steD A s' s'.heap := by rw [hhp]; exact vx_Zq.moved hW0.alike (hU.kept hS.2.1)
  have hN' : vx_Zq Bundle.tN "SUPPRESSED_SENTINEL" Bundle.listD A s' s'.heap := by rw [hhp]; exact vx_Zq.moved hW0.alike (hN.kept hS.2.1)
  have h : ∀ w ∈ Bundle.ownAtoms0 own ic cls names, w.before args s' = true := vx_own hat' (vx_isRefq hU'.1) (vx_isRefq hN'.1) hU'.2.word hN'.2.word
  have hown' : s'.vm.findClass own = some m.cls := by rw [hvm]; exact hown
  have hins : (Cond.instantiable cls 6).before args s' = true := h _ (by simp [Bundle.ownAtoms0])
  obtain ⟨vm₁, cX, kX, hfX, hkX, -, -, X₁, st1⟩ := Y.newCold hexec (own := own) (C := cls) (index := ik) (n := 6) hown' hk' hins hini'
    (g := F0 m pc ls rest) rfl (by rw [hb]; exact d0) (Nat.le_refl _) (Nat.le_refl _)
  generalize hT1 : (T.setVm vm₁).pushCell { cls := cX, slots := kX.instanceTypes.map defaultValue, vm := .none } = T1 at X₁ st1
  have hcat : (Value.ref T.heap.size).category = 1 := rfl
  have hcellA : T1.heap[T.heap.size]? = some (freshCell cX kX) := by rw [← hT1]; exact State.heap_pushCell_size _ _
  have d3' : decode c.code (pc + 3) = .ok (.dup, 1) := by rw [hb]; exact d3
  obtain ⟨U, hsteps, hrun, hend, hW, hsame, ce, hce, hO⟩ := X₁.ctorThrow0 hexec htr (own := own) (cls := cls) (names := names) (ic := ic) hown' hcls hnames h (fun x hx => nomatch hx) hfX hkX hcellA (by rw [hhp, hT]; exact Nat.le_refl _)
    (g := { method := m, pc := pc + 4, locals := ls, stack := .ref T.heap.size :: .ref T.heap.size :: rest, locked := none }) rfl hsize rfl rfl (rest := rest) rfl
    (by rw [hb]; exact d4) (by rw [hb]; exact d7) hout hRframes (by simp only [List.map_cons, List.sum_cons, hcat]; omega) hlocks
  obtain ⟨f1, f2⟩ := vx_frame hsame
  rw [hhp] at f1 f2
  have hWs : s.WarmedH U.vm := State.WarmedH.trans hW0 hW
  have hcl : s.vm.findClass cls = some ce.cls := by
    have h9 := hO.cls
    rw [hvm] at h9
    exact h9
  have hall : s.sameButNew ({ U with vm := s.vm } : State) locs mc ms := by
    subst hA
    obtain ⟨e1, e2⟩ := hsame
    rw [State.setFrames_setFrames] at e1
    have h2 : (T.setVm s.vm).sameButNew ({ U with vm := s.vm } : State) [] (0 + 1) (0 + 6) := ⟨e1, e2⟩
    have h3 := X.same.trans h2
    rw [List.append_nil] at h3
    exact h3.mono hc hs
  refine ⟨U, ?_, .threw T.heap.size, hrun, hend, Or.inr ⟨T.heap.size, rfl, cls, ce, locs, hx U hWs.alike f1 (fun q hq => f2 q hq (fun z hz => nomatch hz)), hce, hO.vm, hcl, hWs, hall, hf⟩⟩
  refine st1 _ ?_
  show Steps p.tables e below (T1.setTop { method := m, pc := pc + 3, locals := ls, stack := .ref T.heap.size :: rest, locked := none }) _
  jvm_step X₁.here [X₁.here.top, hexec, d3', Value.category]
  exact hsteps
/-- 'throw new E("text")': new; dup; ldc; invokespecial; athrow -/
theorem vx_throwS {cc : ByteArray} {pc : Nat} (hexec : p.tables.exec = Jvm.exec) (hb : c.code = cc) (hl : l.stackTraces = false) {own cls text : String} {names : List String} {ik is ic mc ms sa : Nat} {A : Nat → Prop}
    (hown : s.vm.findClass own = some m.cls) (hcls : Bundle.fit cls = true) (hnames : ∀ n ∈ names, Bundle.fit n = true)
    (hk : (Cond.classLink own ik cls).before args s = true) (hini : (Cond.initialized cls).before args s = true) (hstr : vk_R own is text sa s) (hat : ∀ w ∈ vx_atS own ic cls names, w.before args s = true)
    (hgood : ∀ w ∈ Cond.classLink own ik cls :: Cond.initialized cls :: vx_atS own ic cls names, vx_ot w = true)
    (hU : vx_Zq Bundle.tN "UNASSIGNED_STACK" Bundle.steD A s s.heap) (hN : vx_Zq Bundle.tN "SUPPRESSED_SENTINEL" Bundle.listD A s s.heap) (hS : va_S A s.heap H locs) (hsize : ls.size = c.maxLocals)
    (d0 : decode cc pc = .ok (.new ik, 3)) (d3 : decode cc (pc + 3) = .ok (.dup, 1)) (d4 : decode cc (pc + 4) = .ok (.ldc is, 2)) (d6 : decode cc (pc + 6) = .ok (.invokespecial ic, 3)) (d9 : decode cc (pc + 9) = .ok (.athrow, 1))
    (hout : ∀ x ∈ c.exceptionTable.toList, covers x (pc + 9) = false)
    (hRframes : names.length + 3 < R.frames) (hRlocals : (rest.map fun v => v.category).sum + (13 * (names.length + 1) + 43) ≤ R.locals) (hRcells : cells + 1 ≤ R.cells) (hRslots : slots + 6 ≤ R.slots) (hlocks : meth.locks = false)
    (hx : ∀ t : State, s.vm.Alike t.vm → H.size ≤ t.heap.size → (∀ q : Nat, q < H.size → t.heap[q]? = H[q]?) → XC cls s t)
    (hf : ∀ z ∈ locs, free z.base) (hc : cells + 1 ≤ mc) (hs : slots + 6 ≤ ms) :
    W p l e R s m args below meth c H locs cells slots (vx_MQ below Qc XC args s mc ms free) (F0 m pc ls rest) := by
  intro T hT X
  have htr : e.platform.stackTraces = false := (show e.platform.stackTraces = l.stackTraces by rw [X.admits.platform]).trans hl
  have Y := vx_rebase X (R' := { frames := R.frames, locals := R.locals, cells := 1, slots := 6 }) (Nat.le_refl _) (Nat.le_refl _) hRcells hRslots
  obtain ⟨s', hA⟩ : ∃ z, z = (T.setVm s.vm).setFrames (.invoking m args :: below) := ⟨_, rfl⟩
  rw [← hA] at Y
  have hvm : s'.vm = s.vm := by rw [hA]; rfl
  have hhp : s'.heap = H := by rw [hA]; exact hT
  have hW0 : s.WarmedH s'.vm := by rw [hvm]; exact State.WarmedH.refl s
  have hat' : ∀ w ∈ vx_atS own ic cls names, w.before args s' = true := fun w hw => vx_ot_at hW0 hvm.symm (hgood w (List.mem_cons_of_mem _ (List.mem_cons_of_mem _ hw))) (hat w hw)
  have hk' : (Cond.classLink own ik cls).before args s' = true := vx_ot_at hW0 hvm.symm (hgood _ List.mem_cons_self) hk
  have hini' : (Cond.initialized cls).before args s' = true := vx_ot_at hW0 hvm.symm (hgood _ (List.mem_cons_of_mem _ List.mem_cons_self)) hini
  have hU' : vx_Zq Bundle.tN "UNASSIGNED_STACK" Bundle.steD A s' s'.heap := by rw [hhp]; exact vx_Zq.moved hW0.alike (hU.kept hS.2.1)
  have hN' : vx_Zq Bundle.tN "SUPPRESSED_SENTINEL" Bundle.listD A s' s'.heap := by rw [hhp]; exact vx_Zq.moved hW0.alike (hN.kept hS.2.1)
  have h : ∀ w ∈ Bundle.ownAtoms own ic cls names, w.before args s' = true := vx_own hat' (vx_isRefq hU'.1) (vx_isRefq hN'.1) hU'.2.word hN'.2.word
  have hown' : s'.vm.findClass own = some m.cls := by rw [hvm]; exact hown
  have hins : (Cond.instantiable cls 6).before args s' = true := h _ (by simp [Bundle.ownAtoms])
  obtain ⟨vm₁, cX, kX, hfX, hkX, -, -, X₁, st1⟩ := Y.newCold hexec (own := own) (C := cls) (index := ik) (n := 6) hown' hk' hins hini'
    (g := F0 m pc ls rest) rfl (by rw [hb]; exact d0) (Nat.le_refl _) (Nat.le_refl _)
  generalize hT1 : (T.setVm vm₁).pushCell { cls := cX, slots := kX.instanceTypes.map defaultValue, vm := .none } = T1 at X₁ st1
  have hcat : (Value.ref T.heap.size).category = 1 := rfl
  have hcellA : T1.heap[T.heap.size]? = some (freshCell cX kX) := by rw [← hT1]; exact State.heap_pushCell_size _ _
  have d3' : decode c.code (pc + 3) = .ok (.dup, 1) := by rw [hb]; exact d3
  have d4' : decode c.code (pc + 4) = .ok (.ldc is, 2) := by rw [hb]; exact d4
  have hstr' : vk_R own is text sa s' := vk_R.warm hW0 hstr
  obtain ⟨U, hsteps, hrun, hend, hW, hsame, ce, hce, hO⟩ := X₁.ctorThrowS hexec htr (own := own) (cls := cls) (names := names) (ic := ic) hown' hcls hnames h (fun x hx => nomatch hx) hfX hkX hcellA (by rw [hhp, hT]; exact Nat.le_refl _) (msg := .ref sa) rfl
    (g := { method := m, pc := pc + 6, locals := ls, stack := .ref sa :: .ref T.heap.size :: .ref T.heap.size :: rest, locked := none }) rfl hsize rfl rfl (rest := rest) rfl
    (by rw [hb]; exact d6) (by rw [hb]; exact d9) hout hRframes (by simp only [List.map_cons, List.sum_cons, hcat]; omega) hlocks
  obtain ⟨f1, f2⟩ := vx_frame hsame
  rw [hhp] at f1 f2
  have hWs : s.WarmedH U.vm := State.WarmedH.trans hW0 hW
  have hcl : s.vm.findClass cls = some ce.cls := by
    have h9 := hO.cls
    rw [hvm] at h9
    exact h9
  have hall : s.sameButNew ({ U with vm := s.vm } : State) locs mc ms := by
    subst hA
    obtain ⟨e1, e2⟩ := hsame
    rw [State.setFrames_setFrames] at e1
    have h2 : (T.setVm s.vm).sameButNew ({ U with vm := s.vm } : State) [] (0 + 1) (0 + 6) := ⟨e1, e2⟩
    have h3 := X.same.trans h2
    rw [List.append_nil] at h3
    exact h3.mono hc hs
  refine ⟨U, ?_, .threw T.heap.size, hrun, hend, Or.inr ⟨T.heap.size, rfl, cls, ce, locs, hx U hWs.alike f1 (fun q hq => f2 q hq (fun z hz => nomatch hz)), hce, hO.vm, hcl, hWs, hall, hf⟩⟩
  refine st1 _ ?_
  show Steps p.tables e below (T1.setTop { method := m, pc := pc + 3, locals := ls, stack := .ref T.heap.size :: rest, locked := none }) _
  jvm_step X₁.here [X₁.here.top, hexec, d3', Value.category]
  exact X₁.ldcString hexec (own := own) (text := text) (index := is) (a := sa) hown' hstr'.1 hstr'.2
    (g := { method := m, pc := pc + 4, locals := ls, stack := .ref T.heap.size :: .ref T.heap.size :: rest, locked := none }) rfl d4' _ hsteps
/-- 'throw new E("text")', the text by a wide index -/
theorem vx_throwSW {cc : ByteArray} {pc : Nat} (hexec : p.tables.exec = Jvm.exec) (hb : c.code = cc) (hl : l.stackTraces = false) {own cls text : String} {names : List String} {ik is ic mc ms sa : Nat} {A : Nat → Prop}
    (hown : s.vm.findClass own = some m.cls) (hcls : Bundle.fit cls = true) (hnames : ∀ n ∈ names, Bundle.fit n = true)
    (hk : (Cond.classLink own ik cls).before args s = true) (hini : (Cond.initialized cls).before args s = true) (hstr : vk_R own is text sa s) (hat : ∀ w ∈ vx_atS own ic cls names, w.before args s = true)
    (hgood : ∀ w ∈ Cond.classLink own ik cls :: Cond.initialized cls :: vx_atS own ic cls names, vx_ot w = true)
    (hU : vx_Zq Bundle.tN "UNASSIGNED_STACK" Bundle.steD A s s.heap) (hN : vx_Zq Bundle.tN "SUPPRESSED_SENTINEL" Bundle.listD A s s.heap) (hS : va_S A s.heap H locs) (hsize : ls.size = c.maxLocals)
    (d0 : decode cc pc = .ok (.new ik, 3)) (d3 : decode cc (pc + 3) = .ok (.dup, 1)) (d4 : decode cc (pc + 4) = .ok (.ldc_w is, 3)) (d7 : decode cc (pc + 7) = .ok (.invokespecial ic, 3)) (d10 : decode cc (pc + 10) = .ok (.athrow, 1))
    (hout : ∀ x ∈ c.exceptionTable.toList, covers x (pc + 10) = false)
    (hRframes : names.length + 3 < R.frames) (hRlocals : (rest.map fun v => v.category).sum + (13 * (names.length + 1) + 43) ≤ R.locals) (hRcells : cells + 1 ≤ R.cells) (hRslots : slots + 6 ≤ R.slots) (hlocks : meth.locks = false)
    (hx : ∀ t : State, s.vm.Alike t.vm → H.size ≤ t.heap.size → (∀ q : Nat, q < H.size → t.heap[q]? = H[q]?) → XC cls s t)
    (hf : ∀ z ∈ locs, free z.base) (hc : cells + 1 ≤ mc) (hs : slots + 6 ≤ ms) :
    W p l e R s m args below meth c H locs cells slots (vx_MQ below Qc XC args s mc ms free) (F0 m pc ls rest) := by
  intro T hT X
  have htr : e.platform.stackTraces = false := (show e.platform.stackTraces = l.stackTraces by rw [X.admits.platform]).trans hl
  have Y := vx_rebase X (R' := { frames := R.frames, locals := R.locals, cells := 1, slots := 6 }) (Nat.le_refl _) (Nat.le_refl _) hRcells hRslots
  obtain ⟨s', hA⟩ : ∃ z, z = (T.setVm s.vm).setFrames (.invoking m args :: below) := ⟨_, rfl⟩
  rw [← hA] at Y
  have hvm : s'.vm = s.vm := by rw [hA]; rfl
  have hhp : s'.heap = H := by rw [hA]; exact hT
  have hW0 : s.WarmedH s'.vm := by rw [hvm]; exact State.WarmedH.refl s
  have hat' : ∀ w ∈ vx_atS own ic cls names, w.before args s' = true := fun w hw => vx_ot_at hW0 hvm.symm (hgood w (List.mem_cons_of_mem _ (List.mem_cons_of_mem _ hw))) (hat w hw)
  have hk' : (Cond.classLink own ik cls).before args s' = true := vx_ot_at hW0 hvm.symm (hgood _ List.mem_cons_self) hk
  have hini' : (Cond.initialized cls).before args s' = true := vx_ot_at hW0 hvm.symm (hgood _ (List.mem_cons_of_mem _ List.mem_cons_self)) hini
  have hU' : vx_Zq Bundle.tN "UNASSIGNED_STACK" Bundle.steD A s' s'.heap := by rw [hhp]; exact vx_Zq.moved hW0.alike (hU.kept hS.2.1)
  have hN' : vx_Zq Bundle.tN "SUPPRESSED_SENTINEL" Bundle.listD A s' s'.heap := by rw [hhp]; exact vx_Zq.moved hW0.alike (hN.kept hS.2.1)
  have h : ∀ w ∈ Bundle.ownAtoms own ic cls names, w.before args s' = true := vx_own hat' (vx_isRefq hU'.1) (vx_isRefq hN'.1) hU'.2.word hN'.2.word
  have hown' : s'.vm.findClass own = some m.cls := by rw [hvm]; exact hown
  have hins : (Cond.instantiable cls 6).before args s' = true := h _ (by simp [Bundle.ownAtoms])
  obtain ⟨vm₁, cX, kX, hfX, hkX, -, -, X₁, st1⟩ := Y.newCold hexec (own := own) (C := cls) (index := ik) (n := 6) hown' hk' hins hini'
    (g := F0 m pc ls rest) rfl (by rw [hb]; exact d0) (Nat.le_refl _) (Nat.le_refl _)
  generalize hT1 : (T.setVm vm₁).pushCell { cls := cX, slots := kX.instanceTypes.map defaultValue, vm := .none } = T1 at X₁ st1
  have hcat : (Value.ref T.heap.size).category = 1 := rfl
  have hcellA : T1.heap[T.heap.size]? = some (freshCell cX kX) := by rw [← hT1]; exact State.heap_pushCell_size _ _
  have d3' : decode c.code (pc + 3) = .ok (.dup, 1) := by rw [hb]; exact d3
  have d4' : decode c.code (pc + 4) = .ok (.ldc_w is, 3) := by rw [hb]; exact d4
  have hstr' : vk_R own is text sa s' := vk_R.warm hW0 hstr
  obtain ⟨U, hsteps, hrun, hend, hW, hsame, ce, hce, hO⟩ := X₁.ctorThrowS hexec htr (own := own) (cls := cls) (names := names) (ic := ic) hown' hcls hnames h (fun x hx => nomatch hx) hfX hkX hcellA (by rw [hhp, hT]; exact Nat.le_refl _) (msg := .ref sa) rfl
    (g := { method := m, pc := pc + 7, locals := ls, stack := .ref sa :: .ref T.heap.size :: .ref T.heap.size :: rest, locked := none }) rfl hsize rfl rfl (rest := rest) rfl
    (by rw [hb]; exact d7) (by rw [hb]; exact d10) hout hRframes (by simp only [List.map_cons, List.sum_cons, hcat]; omega) hlocks
  obtain ⟨f1, f2⟩ := vx_frame hsame
  rw [hhp] at f1 f2
  have hWs : s.WarmedH U.vm := State.WarmedH.trans hW0 hW
  have hcl : s.vm.findClass cls = some ce.cls := by
    have h9 := hO.cls
    rw [hvm] at h9
    exact h9
  have hall : s.sameButNew ({ U with vm := s.vm } : State) locs mc ms := by
    subst hA
    obtain ⟨e1, e2⟩ := hsame
    rw [State.setFrames_setFrames] at e1
    have h2 : (T.setVm s.vm).sameButNew ({ U with vm := s.vm } : State) [] (0 + 1) (0 + 6) := ⟨e1, e2⟩
    have h3 := X.same.trans h2
    rw [List.append_nil] at h3
    exact h3.mono hc hs
  refine ⟨U, ?_, .threw T.heap.size, hrun, hend, Or.inr ⟨T.heap.size, rfl, cls, ce, locs, hx U hWs.alike f1 (fun q hq => f2 q hq (fun z hz => nomatch hz)), hce, hO.vm, hcl, hWs, hall, hf⟩⟩
  refine st1 _ ?_
  show Steps p.tables e below (T1.setTop { method := m, pc := pc + 3, locals := ls, stack := .ref T.heap.size :: rest, locked := none }) _
  jvm_step X₁.here [X₁.here.top, hexec, d3', Value.category]
  exact X₁.ldcStringW hexec (own := own) (text := text) (index := is) (a := sa) hown' hstr'.1 hstr'.2
    (g := { method := m, pc := pc + 4, locals := ls, stack := .ref T.heap.size :: .ref T.heap.size :: rest, locked := none }) rfl d4' _ hsteps
end Ends
section Bodies
variable {l : Launch}
theorem vx_ofW {y : MethodName} {ws ws' : List Cond} {rm : Room} {Pc : Array Value → State → Prop} {Qc : Array Value → State → Outcome → State → Prop} {XC : String → State → State → Prop} {mc ms : Nat} {free : Addr → Prop} {cc : ByteArray} {maxL : Nat} {ret : Option FieldType}
    (hy : plainName y.cls = true) (hw : ws = Cond.code y cc maxL ret :: ws')
    (body : ∀ p e s m args below meth c s₁, BodyLoose p l y (headSpec ws rm) cc maxL ret e s m args below meth c s₁ → c.maxLocals = maxL → (∀ x ∈ c.exceptionTable.toList, False) → Pc args s →
      W p l e (headSpec ws rm).room s m args below meth c s.heap [] 0 0 (vx_MQ below Qc XC args s mc ms free) (entryFrame m args maxL)) : vx_Met l y ws rm Pc Qc XC mc ms free := by
  refine MetFree.of_bodyS (code := cc) (maxLocals := maxL) (ret := ret) hy ?_ ?_
  · intro args s m h hn
    obtain ⟨meth, c, h1, h2, h3, h4, h5, h6, -, -⟩ := Cond.code_spec hn (atoms_spec (ws := ws) h _ (by rw [hw]; exact List.mem_cons_self))
    exact ⟨meth, c, h1, h2, h3, h4, h5, h6⟩
  · intro p e s m args below meth c s₁ B hml hP _
    have hh0 : s₁.heap = s.heap := by rw [B.state]; rfl
    have ht : ∀ x ∈ c.exceptionTable.toList, False := by
      obtain ⟨meth9, c9, h1, h2, -, -, -, -, h7, -⟩ := Cond.code_spec B.named (atoms_spec (ws := ws) B.pre _ (by rw [hw]; exact List.mem_cons_self))
      cases Option.some.inj (h1.symm.trans B.method)
      cases Option.some.inj (h2.symm.trans (Stand.of_body B).code)
      intro x hx
      rw [Array.isEmpty_iff.mp h7] at hx
      cases hx
    obtain ⟨t, a1, o, b1, b2, b3⟩ := body p e s m args below meth c s₁ B hml ht hP s₁ hh0 (Stand.of_body B)
    exact ⟨t, o, a1, b1, b2, b3⟩
/-- the table of a body with handlers -/
theorem vx_table {p : Program} {x y : MethodName} {S : Spec} {cc bytes : ByteArray} {maxL maxL' : Nat} {ret ret' : Option FieldType} {e : Env} {s s₁ : State} {m : MethodId} {args : Array Value} {below : List Frame} {meth : Method} {c : Code} {hh : List (Nat × Nat × Nat × Nat)}
    (B : BodyLoose p l y S cc maxL ret e s m args below meth c s₁) (h : (Cond.codeWith y bytes maxL' ret' hh).before args s = true) : c.exceptionTable.toList = tableOf hh := by
  obtain ⟨m9, meth9, c9, hn9, h1, h2, -, -, h6, -⟩ := Cond.codeWith_spec h
  cases Option.some.inj (hn9.symm.trans B.named)
  cases Option.some.inj (h1.symm.trans B.method)
  cases Option.some.inj (h2.symm.trans (Stand.of_body B).code)
  rw [← h6, table_eq]
end Bodies
end VXA
/-! ===== END ===== -/
/-! ===== BEGIN a static call of a method with an exception table ===== -/
section VXS
variable {p : Program} {l : Launch} {e : Env} {R : Room} {s : State} {m : MethodId} {args : Array Value} {below : List Frame} {meth : Method} {c : Code} {T : State} {H : Heap} {locs : List Loc} {cells slots : Nat}
abbrev vx_CSW (R : Room) (s : State) (args : Array Value) (own : String) (index : Nat) (y : MethodName) (bytes : ByteArray) (maxL : Nat) (ret : Option FieldType) (hh : List (Nat × Nat × Nat × Nat)) (ws : List Cond) (rm : Room) (mc ms n : Nat) : Prop :=
  (rm.cells = mc ∧ rm.slots = ms ∧ rm.frames + 1 ≤ R.frames ∧ 8 + (maxL + 11) + rm.locals ≤ R.locals ∧ (∀ w ∈ ws, ∀ (a' : Array Value) (U : State), s.WarmedH U.vm → w.before a' U = true) ∧ Cond.codeWith y bytes maxL ret hh ∈ ws) ∧
  (Cond.codeWith y bytes maxL ret hh).before args s = true ∧ (Cond.initialized y.cls).before args s = true ∧ (y.cls ≠ "java/lang/invoke/MethodHandle" ∧ y.cls ≠ "java/lang/invoke/VarHandle") ∧
  (∀ sig, parseMethodDescriptor y.desc = some sig → n = sig.parameters.length) ∧ (Cond.methodLink own index y).before args s = true ∧ (Cond.static y).before args s = true
theorem vx_cwSW {own : String} {index maxL mc ms : Nat} {y : MethodName} {bytes : ByteArray} {ret : Option FieldType} {hh : List (Nat × Nat × Nat × Nat)} {Ts ws ws' : List Cond} {rm : Room} (n : Nat) (ht : ∀ w ∈ Ts, w.before args s = true) (hT : GoodIn Ts (va_wsS own index y ws)) (hw : ws = Cond.codeWith y bytes maxL ret hh :: ws') (hrc : rm.cells = mc) (hrs : rm.slots = ms)
    (hd : y.cls ≠ "java/lang/invoke/MethodHandle" ∧ y.cls ≠ "java/lang/invoke/VarHandle" ∧ (parseMethodDescriptor y.desc).map (fun d => d.parameters.length) = some n) (hR : rm.frames + 1 ≤ R.frames ∧ 8 + (maxL + 11) + rm.locals ≤ R.locals) :
    vx_CSW R s args own index y bytes maxL ret hh ws rm mc ms n := by
  have ok : ∀ w ∈ va_wsS own index y ws, w.before args s = true := fun w h => ht w (hT w h).1
  have hG : GoodIn Ts ws := fun w h => hT w (by unfold va_wsS; exact List.mem_append_right _ h)
  have hc : Cond.codeWith y bytes maxL ret hh ∈ ws := by rw [hw]; exact List.mem_cons_self
  refine ⟨⟨hrc, hrs, hR.1, hR.2, pay_in ht hG, hc⟩, ht _ (hG _ hc).1, ok _ (by simp [va_wsS]), ⟨hd.1, hd.2.1⟩, fun sig h => ?_, ok _ (by simp [va_wsS]), ok _ (by simp [va_wsS])⟩
  have h2 := hd.2.2
  rw [h] at h2
  exact (Option.some.inj h2).symm
theorem vx_callSW (X : Stand p l e R s m args below meth c T locs cells slots) (hexec : p.tables.exec = Jvm.exec) {own : String} {index : Nat} {y : MethodName} {bytes : ByteArray} {maxL : Nat} {ret : Option FieldType} {hh : List (Nat × Nat × Nat × Nat)}
    (hown : s.vm.findClass own = some m.cls) (hlink : (Cond.methodLink own index y).before args s = true) (hstat : (Cond.static y).before args s = true) (hinit : (Cond.initialized y.cls).before args s = true)
    (hcode : (Cond.codeWith y bytes maxL ret hh).before args s = true) (hy : y.cls ≠ "java/lang/invoke/MethodHandle" ∧ y.cls ≠ "java/lang/invoke/VarHandle")
    {W9 : Nat} {Pre : Pt → Array Value → Prop} {Post : Pt → Array Value → Option Value → Pt → Prop} (hK : Back l R p e below s args y 3 W9 Pre Post)
    {g : JFrame} (hg : g.method = m) (hsize : g.locals.size = c.maxLocals) {argsL rest : List Value} (hlen : ∀ sig, parseMethodDescriptor y.desc = some sig → argsL.length = sig.parameters.length)
    (hstack : g.stack = argsL.reverse ++ rest) (hW : 2 * g.monitorRoom + (rest.map fun v => v.category).sum ≤ W9) (hdg : decode c.code g.pc = .ok (.invokestatic index, 3))
    (hpre : ∀ vm₁, s.WarmedH vm₁ → Pre ⟨T.setVm vm₁, locs, cells, slots⟩ argsL.toArray) :
    ∃ (v : Option Value) (vm₁ : Vm) (B : Pt), s.WarmedH vm₁ ∧ Stand p l e R s m args below meth c B.U B.locs B.cells B.slots ∧ Post ⟨T.setVm vm₁, locs, cells, slots⟩ argsL.toArray v B ∧
      ∀ target, Steps p.tables e below (B.U.setTop { g with pc := g.pc + 3, stack := v.toList ++ rest }) target → Steps p.tables e below (T.setTop g) target := by
  obtain ⟨mk, methM, cM, hnamed, hmethM, -, -, -, -, -, -, hsigM⟩ := Cond.codeWith_spec hcode
  have hstatic : methM.isStatic = true := Cond.static_spec hnamed hmethM hstat
  obtain ⟨kP, hkP, -⟩ := className_of_methodNamed hnamed
  have hinitP : kP.init = .initialized := Cond.initialized_spec (findClass_of_methodNamed hnamed) hkP hinit
  obtain ⟨vm₁, X₁, hstep₁⟩ := X.invokestatic hexec hown hlink hnamed hmethM hstatic hkP hinitP hy (g := g) hg (argsL := argsL) (rest := rest) (hlen _ hsigM) hstack hdg
  obtain ⟨v, B, X', hpost, hsteps⟩ := hK m meth c ⟨T.setVm vm₁, locs, cells, slots⟩ { g with stack := rest } (.invokestatic index) mk argsL.toArray X₁ hg hsize hdg hW (X₁.named hnamed) (hpre vm₁ X₁.warmed)
  exact ⟨v, vm₁, B, X₁.warmed, X', hpost, fun target h => hstep₁ _ fun acts => by rw [doInvoke_state]; exact hsteps.trans h⟩
theorem vx_runSW {y : MethodName} {bytes cc : ByteArray} {maxL nL mc ms n index : Nat} {ret : Option FieldType} {hh : List (Nat × Nat × Nat × Nat)} {ws : List Cond} {rm : Room} {Pc : Array Value → State → Prop} {Qc : Array Value → State → Outcome → State → Prop} {free : Addr → Prop} {Ts : List Cond} {own : String} {As rest : List Value} {g : JFrame}
    (S : CallFix p m c cc nL s args Ts own) (hM : Met l y ws rm Pc Qc mc ms free) (cw : vx_CSW R s args own index y bytes maxL ret hh ws rm mc ms n) (hp : PreS s H Pc As)
    (hg : g.method = m) (hn : As.length = n) (hsize : g.locals.size = nL) (hstack : g.stack = As.reverse ++ rest) (hW : 2 * g.monitorRoom + (rest.map fun v => v.category).sum ≤ 8) (hdg : decode cc g.pc = .ok (.invokestatic index, 3)) (hf : cells + mc ≤ R.cells ∧ slots + ms ≤ R.slots) :
    va_Run p l e R s m args below meth c H locs cells slots mc ms g rest (Qc As.toArray) (free) := by
  obtain ⟨⟨hrc, hrs, hfr, hlo, hws, hcw⟩, hcode, hini, hy, hlen, hl, hstt⟩ := cw
  have hK : Back l R p e below s args y 3 8 (PreOf R mc ms Pc) (PostOf Qc mc ms free) := va_backW (hh := hh) (bytes := bytes) (maxL := maxL) (ret := ret) hM hp.1 hrc hrs hfr hlo hws hcw (fun a' U hW => word_at hW (Or.inl (by first | rfl | simp [Cond.onTables, Cond.keeps, Cond.steady])) hini)
  obtain ⟨hx, hb, hml, ho, -⟩ := S
  intro T hT X
  obtain ⟨v, vm₁, ⟨U', l2, c2, s2⟩, hW₁, X', ⟨g', mk, t, L, e1, e2, hq, h1, hL, h2, h3⟩, st⟩ := vx_callSW X hx (hh := hh) (bytes := bytes) (maxL := maxL) (ret := ret) ho hl hstt hini hcode hy hK hg (hsize.trans hml.symm) (argsL := As) (rest := rest) (fun sig h => hn.trans (hlen sig h)) hstack hW (by rw [hb]; exact hdg)
    (fun vm₁ hW₁ => ⟨hf.1, hf.2, hp.2 (T.setVm vm₁) hT hW₁⟩)
  dsimp only [Pt.U, Pt.locs, Pt.cells, Pt.slots] at X' e1 e2 h1 h2 h3 st
  subst h1; subst h2; subst h3
  exact ⟨v, (T.setVm vm₁).calling g' mk As.toArray, t, U', L, hT, X', hL, e1, e2, hq, st⟩
/-- not caught here, past rows that name other classes: it goes on to the caller -/
theorem vx_outP {p : Program} {l : Launch} {e : Env} {R : Room} {s : State} {m : MethodId} {args : Array Value} {below : List Frame} {meth : Method} {c : Code} {H : Heap} {locs : List Loc} {cells slots : Nat} {free : Addr → Prop} {ls : Array Slot} {rest : List Value} {Qc : Array Value → State → Outcome → State → Prop} {XC : String → State → State → Prop}
    {pc : Nat} {own E : String} {ce : Cell} {q : Addr} {mc ms : Nat} (hown : s.vm.findClass own = some m.cls) (hlocks : meth.locks = false)
    (hpass : ∀ z ∈ c.exceptionTable.toList, covers z pc = false ∨ (z.catchType ≠ 0 ∧ ∃ nm : String, (Cond.classLink own z.catchType nm).before args s = true ∧ va_Nc E nm s)) (hcell : H[q]? = some ce) (hv : ce.vm = .none) (hcl : s.vm.findClass E = some ce.cls)
    (hx : ∀ t : State, t.heap = H → s.vm.Alike t.vm → XC E s t) (hf : ∀ z ∈ locs, free z.base) (hc : cells ≤ mc) (hs : slots ≤ ms) :
    vx_W p l e R s m args below meth c H locs cells slots (vx_MQ below Qc XC args s mc ms free) (F0 m pc ls rest) q := by
  intro T hT X
  have hpl : e.platform.magicAccessors = ({} : Platform).magicAccessors := by rw [X.admits.platform]
  obtain ⟨vm', hW', X', st⟩ := X.outThrough hlocks q (g := F0 m pc ls rest) rfl rfl rfl (cell := ce) (by rw [hT]; exact hcell) (by rw [hv]; rfl)
    (by obtain ⟨k9, h9, -⟩ := Vm.findClass_spec hcl; exact ⟨k9, h9⟩) (fun z hz => by
      rcases hpass z hz with h | ⟨hz0, nm, hl1, hn1⟩
      · exact Or.inl h
      · obtain ⟨c6, hc6, hcl6⟩ := Cond.classLink_spec hown hl1 e.platform hpl
        obtain ⟨a8, b8, h1, h2, h3⟩ := hn1
        cases Option.some.inj (h1.symm.trans hcl)
        cases Option.some.inj (h2.symm.trans hc6)
        exact Or.inr ⟨hz0, _, hcl6, h3⟩)
  obtain ⟨g₀, hfr⟩ := X'.frames_eq
  have hcell9 : ((T.setVm vm').setFrames (.throwing q :: below)).heap[q]? = some ce := by
    show T.heap[q]? = some ce
    rw [hT]; exact hcell
  have hend : Ended ((T.setVm vm').setFrames (.throwing q :: below)) below (.threw q) := State.frames_setFrames _ (State.cur_lt_of_frames hfr)
  refine ⟨(T.setVm vm').setFrames (.throwing q :: below), ?_, .threw q, X'.here.running, hend, Or.inr ⟨q, rfl, E, ce, locs, hx _ hT (X'.ends _).1.alike, hcell9, hv, hcl, (X'.ends _).1, (X'.ends _).2.mono hc hs, hf⟩⟩
  rw [X.pushThrowing_eq]
  exact st
/-- a thing of a world lies in the heap -/
theorem vx_lt {D : va_G} {cl : List vw_C} {ws : va_W} {H1 : Heap} (h : va_P D cl ws H1) {k : Nat} {q : Nat × va_E} (hk : ws[k]? = some q) : q.1 < H1.size := (h k q hk).lt
end VXS
/-! ===== END ===== -/
/-! ===== BEGIN methods with a table of their own: called by a name, returning or throwing ===== -/
section VXH
/-! vx_backW, vx_callVX, vx_callSX, vx_callVW, vx_runVW, vx_runVX, vx_runSX, vx_ofWH follow the same proofs as their sisters above (Free/Laws.lean, Shelf42/LK1.lean); vx_outP calls Shelf42/NT130.lean (outThrough). -/
section
variable {l : Launch} {R : Room} {p : Program} {e : Env} {below : List Frame} {s : State} {sargs : Array Value} {y : MethodName} {len W9 : Nat}
theorem vx_backW {ws : List Cond} {rm : Room} {Pc : Array Value → State → Prop} {Qc : Array Value → State → Outcome → State → Prop} {XC : String → State → State → Prop} {mc ms : Nat} {free : Addr → Prop} {bytes : ByteArray} {maxL : Nat} {ret : Option FieldType} {hh : List (Nat × Nat × Nat × Nat)}
    (hM : vx_Met l y ws rm Pc Qc XC mc ms free) (hblind : FrameBlind Pc) (hrc : rm.cells = mc) (hrs : rm.slots = ms)
    (hframes : rm.frames + 1 ≤ R.frames) (hlocals : W9 + (maxL + 11) + rm.locals ≤ R.locals)
    (hws : ∀ w ∈ ws, ∀ a' U, s.WarmedH U.vm → w.before a' U = true) (hcode : Cond.codeWith y bytes maxL ret hh ∈ ws) (hinit : ∀ a' U, s.WarmedH U.vm → (Cond.initialized y.cls).before a' U = true) :
    vx_Back l R p e below s sargs y len W9 (PreOf R mc ms Pc) (PostOf Qc mc ms free) (vx_Post XC mc ms free) := by
  intro m meth c A g ig mk a X hg hsize hdg hW hn hp
  have h1 : (headSpec ws rm).pre.before a A.U = true := atoms_intro fun w hw => hws w hw _ _ X.warmed
  have h2 : (Cond.codeWith y bytes maxL ret hh).before a A.U = true := hws _ hcode _ _ X.warmed
  have h3 : (Cond.initialized y.cls).before a A.U = true := hinit _ _ X.warmed
  have h4 : A.cells + (headSpec ws rm).room.cells ≤ R.cells := by rw [show (headSpec ws rm).room.cells = mc from hrc]; exact hp.1
  have h5 : A.slots + (headSpec ws rm).room.slots ≤ R.slots := by rw [show (headSpec ws rm).room.slots = ms from hrs]; exact hp.2.1
  have hPc : Pc a (A.U.calling g mk a) := hblind _ _ _ _ hp.2.2
  obtain ⟨U, Ls, c0, s0⟩ := A
  dsimp only [Pt.U, Pt.locs, Pt.cells, Pt.slots] at h1 h2 h3 h4 h5 X hn hPc ⊢
  obtain ⟨m9, methY, cY, hn9, hmY, hcY, -, hlY, -⟩ := Cond.codeWith_spec h2
  cases Option.some.inj (hn9.symm.trans hn)
  obtain ⟨kY, hkY, -⟩ := className_of_methodNamed hn
  have hinitY : kY.init = .initialized := Cond.initialized_spec (findClass_of_methodNamed hn) hkY h3
  have h : At U g.method c below := by rw [hg]; exact X.here
  have hlocals9 : W9 + (maxL + 11) + (headSpec ws rm).room.locals ≤ R.locals := hlocals
  have happ : (headSpec ws rm).appliesLoose y e.platform (U.calling g mk a) = true :=
    Spec.appliesLoose_calling (g := g) h hdg hn hkY hinitY
      (X.room_calling (g := g) (R' := (headSpec ws rm).room) hsize hmY hcY hframes (by rw [hlY]; omega) h4 h5) h1
  obtain ⟨mid, hmid⟩ := h.above
  have hfr : (U.setTop g).frames = (.java g :: mid) ++ below := by rw [State.frames_setTop' g h.top, hmid]; rfl
  obtain ⟨o, s₂, hsteps, -, hend, hq⟩ := Steps.callFree hM p X.admits X.cas X.clock (acts := []) hfr happ hPc trivial
  have hq' : vx_Q Qc XC mc ms free a (U.calling g mk a) o s₂ := hq
  rw [State.frames_setTop' g h.top] at hend
  obtain ⟨g₀, hg0⟩ := Option.isSome_iff_exists.mp h.top
  obtain ⟨r, hr⟩ := State.topJava?_eq_some.mp hg0
  have hr' : (({ U with heap := s₂.heap, slotsUsed := s₂.slotsUsed } : State).setVm s₂.vm).frames = .java g₀ :: r := hr
  rcases hq' with ⟨hqc, L, hfe, hL⟩ | ⟨q, rfl, E, ce, L, hx, hce, hcv, hcl, hW₂, hsm, hL⟩
  · obtain ⟨⟨v, rfl⟩, hW₂, e2, q2, q3, q4, q5, q6⟩ := id hfe
    have e3 : s₂ = ({ (U.calling g mk a).setFrames s₂.frames with heap := s₂.heap, slotsUsed := s₂.slotsUsed } : State).setVm s₂.vm := by
      have : s₂ = ({ s₂ with vm := (U.calling g mk a).vm } : State).setVm s₂.vm := rfl
      rw [e2] at this
      exact this
    obtain ⟨c₂, i₂, len₂, hc₂, hd₂, hf₂⟩ := hend
    have hW' : U.WarmedH s₂.vm := hW₂
    have hcc : c₂ = c := by
      have h1 : s₂.code? g.method = U.code? g.method := by
        rw [State.code?_eq, State.code?_eq, hW'.alike.method?]
      exact Option.some.inj (hc₂.symm.trans (h1.trans h.code))
    subst hcc
    have hlen : len₂ = len := by rw [hdg] at hd₂; cases hd₂; rfl
    subst hlen
    have hs₂ : s₂ = (({ U with heap := s₂.heap, slotsUsed := s₂.slotsUsed } : State).setVm s₂.vm).setTop { g with pc := g.pc + len₂, stack := v.toList ++ g.stack } := by
      refine e3.trans ?_
      rw [hf₂, State.calling_eq h.top, State.setFrames_setFrames, State.setTop_of_frames _ hr', hr]
      rfl
    have hsame : U.sameButNew ({ U with heap := s₂.heap, slotsUsed := s₂.slotsUsed } : State) L mc ms := by
      refine ⟨?_, q2, q3, q4, q5, q6⟩
      obtain ⟨t, ht, -⟩ := State.frames_cons hr
      show ({ U with heap := s₂.heap, slotsUsed := s₂.slotsUsed } : State) = { U.setFrames U.frames with heap := s₂.heap, slotsUsed := s₂.slotsUsed }
      rw [State.setFrames_self ht]
    subst hg
    refine Or.inl ⟨v, ⟨(({ U with heap := s₂.heap, slotsUsed := s₂.slotsUsed } : State).setVm s₂.vm), Ls ++ L, c0 + mc, s0 + ms⟩,
      ⟨X.admits, X.cas, X.clock, X.frames, X.room, X.hears, X.method, X.code, (X.here.setHeapUsed s₂.heap s₂.slotsUsed).setVm hW'.alike, X.tail, State.WarmedH.trans X.warmed hW', X.limits, X.bytes, X.same.trans (hsame.setVm s.vm)⟩,
      ⟨g, mk, s₂, L, rfl, rfl, hqc, rfl, hL, rfl, rfl⟩, ?_⟩
    show Steps p.tables e below _ ((({ U with heap := s₂.heap, slotsUsed := s₂.slotsUsed } : State).setVm s₂.vm).setTop { g with pc := g.pc + len₂, stack := v.toList ++ g.stack })
    rw [← hs₂]
    exact hsteps
  · obtain ⟨e2, q2, q3, q4, q5, q6⟩ := id hsm
    have e3 : s₂ = ({ (U.calling g mk a).setFrames s₂.frames with heap := s₂.heap, slotsUsed := s₂.slotsUsed } : State).setVm s₂.vm := by
      have : s₂ = ({ s₂ with vm := (U.calling g mk a).vm } : State).setVm s₂.vm := rfl
      rw [e2] at this
      exact this
    have hf₂ : s₂.frames = .throwing q :: .java g :: U.frames.tail := hend
    have hW' : U.WarmedH s₂.vm := hW₂
    have hs₂ : s₂ = ((({ U with heap := s₂.heap, slotsUsed := s₂.slotsUsed } : State).setVm s₂.vm).setTop g).pushFrame (.throwing q) := by
      refine e3.trans ?_
      rw [hf₂, State.calling_eq h.top, State.setFrames_setFrames, State.pushFrame, State.frames_setTop _ hr', State.setTop_of_frames _ hr', State.setFrames_setFrames, hr]
      rfl
    have hsame : U.sameButNew ({ U with heap := s₂.heap, slotsUsed := s₂.slotsUsed } : State) L mc ms := by
      refine ⟨?_, q2, q3, q4, q5, q6⟩
      obtain ⟨t, ht, -⟩ := State.frames_cons hr
      show ({ U with heap := s₂.heap, slotsUsed := s₂.slotsUsed } : State) = { U.setFrames U.frames with heap := s₂.heap, slotsUsed := s₂.slotsUsed }
      rw [State.setFrames_self ht]
    subst hg
    refine Or.inr ⟨q, ⟨(({ U with heap := s₂.heap, slotsUsed := s₂.slotsUsed } : State).setVm s₂.vm), Ls ++ L, c0 + mc, s0 + ms⟩,
      ⟨X.admits, X.cas, X.clock, X.frames, X.room, X.hears, X.method, X.code, (X.here.setHeapUsed s₂.heap s₂.slotsUsed).setVm hW'.alike, X.tail, State.WarmedH.trans X.warmed hW', X.limits, X.bytes, X.same.trans (hsame.setVm s.vm)⟩,
      ⟨g, mk, s₂, L, E, ce, rfl, rfl, hx, hce, hcv, hcl, rfl, hL, rfl, rfl⟩, ?_⟩
    show Steps p.tables e below _ (((({ U with heap := s₂.heap, slotsUsed := s₂.slotsUsed } : State).setVm s₂.vm).setTop g).pushFrame (.throwing q))
    rw [← hs₂]
    exact hsteps
end
variable {p : Program} {l : Launch} {e : Env} {R : Room} {s : State} {m : MethodId} {args : Array Value} {below : List Frame} {meth : Method} {c : Code} {T : State} {H : Heap} {locs : List Loc} {cells slots : Nat}
theorem vx_callVX (X : Stand p l e R s m args below meth c T locs cells slots) (hexec : p.tables.exec = Jvm.exec) {own C : String} {index : Nat} {y : MethodName} {bytes : ByteArray} {maxL : Nat} {ret : Option FieldType} {hh : List (Nat × Nat × Nat × Nat)}
    (hown : s.vm.findClass own = some m.cls) (hlink : (Cond.methodLink own index y).before args s = true) (hinst : (Cond.instanceMethod y).before args s = true) (hsel : (Cond.selects C y y).before args s = true)
    (hcode : (Cond.codeWith y bytes maxL ret hh).before args s = true) (hy : y.cls ≠ "java/lang/invoke/MethodHandle" ∧ y.cls ≠ "java/lang/invoke/VarHandle")
    {W9 : Nat} {Pre : Pt → Array Value → Prop} {Post : Pt → Array Value → Option Value → Pt → Prop} {PostX : Pt → Array Value → Addr → Pt → Prop} (hK : vx_Back l R p e below s args y 3 W9 Pre Post PostX)
    {b : Addr} {cellB : Cell} (hcell : T.heap[b]? = some cellB) (hobj : cellB.vm.isStatics = false) (hcls : s.vm.findClass C = some cellB.cls)
    {g : JFrame} (hg : g.method = m) (hsize : g.locals.size = c.maxLocals) {argsL rest : List Value} (hlen : ∀ sig, parseMethodDescriptor y.desc = some sig → argsL.length = sig.parameters.length)
    (hstack : g.stack = argsL.reverse ++ .ref b :: rest) (hW : 2 * g.monitorRoom + (rest.map fun v => v.category).sum ≤ W9) (hdg : decode c.code g.pc = .ok (.invokevirtual index, 3))
    (hpre : ∀ vm₁, s.WarmedH vm₁ → Pre ⟨T.setVm vm₁, locs, cells, slots⟩ (Value.ref b :: argsL).toArray) :
    (∃ (v : Option Value) (vm₁ : Vm) (B : Pt), s.WarmedH vm₁ ∧ Stand p l e R s m args below meth c B.U B.locs B.cells B.slots ∧ Post ⟨T.setVm vm₁, locs, cells, slots⟩ (Value.ref b :: argsL).toArray v B ∧
      ∀ target, Steps p.tables e below (B.U.setTop { g with pc := g.pc + 3, stack := v.toList ++ rest }) target → Steps p.tables e below (T.setTop g) target) ∨
    (∃ (q : Addr) (vm₁ : Vm) (B : Pt), s.WarmedH vm₁ ∧ Stand p l e R s m args below meth c B.U B.locs B.cells B.slots ∧ PostX ⟨T.setVm vm₁, locs, cells, slots⟩ (Value.ref b :: argsL).toArray q B ∧
      Steps p.tables e below (T.setTop g) ((B.U.setTop { g with stack := rest }).pushFrame (.throwing q))) := by
  obtain ⟨mk, methM, hnamed, hmethM, hstM, habM⟩ := Cond.instanceMethod_spec hinst
  obtain ⟨m8, methM', cM, hn8, hmethM', -, -, -, -, -, -, hsigM⟩ := Cond.codeWith_spec hcode
  cases Option.some.inj (hn8.symm.trans hnamed)
  cases hmethM.symm.trans hmethM'
  obtain ⟨c2, r2, m2, q1, q2, q3, q4, kP, hkP, hkPi⟩ := Cond.selects_spec hsel
  cases hcls.symm.trans q1
  cases (State.methodFound?_of_named hnamed hy).symm.trans q2
  cases hnamed.symm.trans q3
  have hselP : selectMethod e.platform s.vm cellB.cls mk = .method mk := by rw [Launch.admits_selectMethod X.admits]; exact q4
  obtain ⟨vm₁, X₁, hstep₁⟩ := X.invokevirtual hexec hown hlink hnamed hmethM hstM hkP hkPi hy (a := b) (cell := cellB) hcell
    (fun z h => by rw [h] at hobj; cases hobj) hselP hmethM habM hkP hkPi (g := g) hg (argsL := argsL) (rest := rest) (hlen _ hsigM) hstack hdg
  rcases hK m meth c ⟨T.setVm vm₁, locs, cells, slots⟩ { g with stack := rest } (.invokevirtual index) mk (Value.ref b :: argsL).toArray X₁ hg hsize hdg hW (X₁.named hnamed) (hpre vm₁ X₁.warmed) with ⟨v, B, X', hpost, hsteps⟩ | ⟨q, B, X', hpost, hsteps⟩
  · exact Or.inl ⟨v, vm₁, B, X₁.warmed, X', hpost, fun target h => hstep₁ _ fun acts => by rw [doInvoke_state]; exact hsteps.trans h⟩
  · exact Or.inr ⟨q, vm₁, B, X₁.warmed, X', hpost, hstep₁ _ fun acts => by rw [doInvoke_state]; exact hsteps⟩
theorem vx_callSX (X : Stand p l e R s m args below meth c T locs cells slots) (hexec : p.tables.exec = Jvm.exec) {own : String} {index : Nat} {y : MethodName} {bytes : ByteArray} {maxL : Nat} {ret : Option FieldType} {hh : List (Nat × Nat × Nat × Nat)}
    (hown : s.vm.findClass own = some m.cls) (hlink : (Cond.methodLink own index y).before args s = true) (hstat : (Cond.static y).before args s = true) (hinit : (Cond.initialized y.cls).before args s = true)
    (hcode : (Cond.codeWith y bytes maxL ret hh).before args s = true) (hy : y.cls ≠ "java/lang/invoke/MethodHandle" ∧ y.cls ≠ "java/lang/invoke/VarHandle")
    {W9 : Nat} {Pre : Pt → Array Value → Prop} {Post : Pt → Array Value → Option Value → Pt → Prop} {PostX : Pt → Array Value → Addr → Pt → Prop} (hK : vx_Back l R p e below s args y 3 W9 Pre Post PostX)
    {g : JFrame} (hg : g.method = m) (hsize : g.locals.size = c.maxLocals) {argsL rest : List Value} (hlen : ∀ sig, parseMethodDescriptor y.desc = some sig → argsL.length = sig.parameters.length)
    (hstack : g.stack = argsL.reverse ++ rest) (hW : 2 * g.monitorRoom + (rest.map fun v => v.category).sum ≤ W9) (hdg : decode c.code g.pc = .ok (.invokestatic index, 3))
    (hpre : ∀ vm₁, s.WarmedH vm₁ → Pre ⟨T.setVm vm₁, locs, cells, slots⟩ argsL.toArray) :
    (∃ (v : Option Value) (vm₁ : Vm) (B : Pt), s.WarmedH vm₁ ∧ Stand p l e R s m args below meth c B.U B.locs B.cells B.slots ∧ Post ⟨T.setVm vm₁, locs, cells, slots⟩ argsL.toArray v B ∧
      ∀ target, Steps p.tables e below (B.U.setTop { g with pc := g.pc + 3, stack := v.toList ++ rest }) target → Steps p.tables e below (T.setTop g) target) ∨
    (∃ (q : Addr) (vm₁ : Vm) (B : Pt), s.WarmedH vm₁ ∧ Stand p l e R s m args below meth c B.U B.locs B.cells B.slots ∧ PostX ⟨T.setVm vm₁, locs, cells, slots⟩ argsL.toArray q B ∧
      Steps p.tables e below (T.setTop g) ((B.U.setTop { g with stack := rest }).pushFrame (.throwing q))) := by
  obtain ⟨mk, methM, cM, hnamed, hmethM, -, -, -, -, -, -, hsigM⟩ := Cond.codeWith_spec hcode
  have hstatic : methM.isStatic = true := Cond.static_spec hnamed hmethM hstat
  obtain ⟨kP, hkP, -⟩ := className_of_methodNamed hnamed
  have hinitP : kP.init = .initialized := Cond.initialized_spec (findClass_of_methodNamed hnamed) hkP hinit
  obtain ⟨vm₁, X₁, hstep₁⟩ := X.invokestatic hexec hown hlink hnamed hmethM hstatic hkP hinitP hy (g := g) hg (argsL := argsL) (rest := rest) (hlen _ hsigM) hstack hdg
  rcases hK m meth c ⟨T.setVm vm₁, locs, cells, slots⟩ { g with stack := rest } (.invokestatic index) mk argsL.toArray X₁ hg hsize hdg hW (X₁.named hnamed) (hpre vm₁ X₁.warmed) with ⟨v, B, X', hpost, hsteps⟩ | ⟨q, B, X', hpost, hsteps⟩
  · exact Or.inl ⟨v, vm₁, B, X₁.warmed, X', hpost, fun target h => hstep₁ _ fun acts => by rw [doInvoke_state]; exact hsteps.trans h⟩
  · exact Or.inr ⟨q, vm₁, B, X₁.warmed, X', hpost, hstep₁ _ fun acts => by rw [doInvoke_state]; exact hsteps⟩
theorem vx_callVW (X : Stand p l e R s m args below meth c T locs cells slots) (hexec : p.tables.exec = Jvm.exec) {own C : String} {index : Nat} {y : MethodName} {bytes : ByteArray} {maxL : Nat} {ret : Option FieldType} {hh : List (Nat × Nat × Nat × Nat)}
    (hown : s.vm.findClass own = some m.cls) (hlink : (Cond.methodLink own index y).before args s = true) (hinst : (Cond.instanceMethod y).before args s = true) (hsel : (Cond.selects C y y).before args s = true)
    (hcode : (Cond.codeWith y bytes maxL ret hh).before args s = true) (hy : y.cls ≠ "java/lang/invoke/MethodHandle" ∧ y.cls ≠ "java/lang/invoke/VarHandle")
    {W9 : Nat} {Pre : Pt → Array Value → Prop} {Post : Pt → Array Value → Option Value → Pt → Prop} (hK : Back l R p e below s args y 3 W9 Pre Post)
    {b : Addr} {cellB : Cell} (hcell : T.heap[b]? = some cellB) (hobj : cellB.vm.isStatics = false) (hcls : s.vm.findClass C = some cellB.cls)
    {g : JFrame} (hg : g.method = m) (hsize : g.locals.size = c.maxLocals) {argsL rest : List Value} (hlen : ∀ sig, parseMethodDescriptor y.desc = some sig → argsL.length = sig.parameters.length)
    (hstack : g.stack = argsL.reverse ++ .ref b :: rest) (hW : 2 * g.monitorRoom + (rest.map fun v => v.category).sum ≤ W9) (hdg : decode c.code g.pc = .ok (.invokevirtual index, 3))
    (hpre : ∀ vm₁, s.WarmedH vm₁ → Pre ⟨T.setVm vm₁, locs, cells, slots⟩ (Value.ref b :: argsL).toArray) :
    ∃ (v : Option Value) (vm₁ : Vm) (B : Pt), s.WarmedH vm₁ ∧ Stand p l e R s m args below meth c B.U B.locs B.cells B.slots ∧ Post ⟨T.setVm vm₁, locs, cells, slots⟩ (Value.ref b :: argsL).toArray v B ∧
      ∀ target, Steps p.tables e below (B.U.setTop { g with pc := g.pc + 3, stack := v.toList ++ rest }) target → Steps p.tables e below (T.setTop g) target := by
  obtain ⟨mk, methM, hnamed, hmethM, hstM, habM⟩ := Cond.instanceMethod_spec hinst
  obtain ⟨m8, methM', cM, hn8, hmethM', -, -, -, -, -, -, hsigM⟩ := Cond.codeWith_spec hcode
  cases Option.some.inj (hn8.symm.trans hnamed)
  cases hmethM.symm.trans hmethM'
  obtain ⟨c2, r2, m2, q1, q2, q3, q4, kP, hkP, hkPi⟩ := Cond.selects_spec hsel
  cases hcls.symm.trans q1
  cases (State.methodFound?_of_named hnamed hy).symm.trans q2
  cases hnamed.symm.trans q3
  have hselP : selectMethod e.platform s.vm cellB.cls mk = .method mk := by rw [Launch.admits_selectMethod X.admits]; exact q4
  obtain ⟨vm₁, X₁, hstep₁⟩ := X.invokevirtual hexec hown hlink hnamed hmethM hstM hkP hkPi hy (a := b) (cell := cellB) hcell
    (fun z h => by rw [h] at hobj; cases hobj) hselP hmethM habM hkP hkPi (g := g) hg (argsL := argsL) (rest := rest) (hlen _ hsigM) hstack hdg
  obtain ⟨v, B, X', hpost, hsteps⟩ := hK m meth c ⟨T.setVm vm₁, locs, cells, slots⟩ { g with stack := rest } (.invokevirtual index) mk (Value.ref b :: argsL).toArray X₁ hg hsize hdg hW (X₁.named hnamed) (hpre vm₁ X₁.warmed)
  exact ⟨v, vm₁, B, X₁.warmed, X', hpost, fun target h => hstep₁ _ fun acts => by rw [doInvoke_state]; exact hsteps.trans h⟩
abbrev vx_CVW (R : Room) (s : State) (args : Array Value) (own C : String) (index : Nat) (y : MethodName) (bytes : ByteArray) (maxL : Nat) (ret : Option FieldType) (hh : List (Nat × Nat × Nat × Nat)) (ws : List Cond) (rm : Room) (mc ms n : Nat) : Prop :=
  (rm.cells = mc ∧ rm.slots = ms ∧ rm.frames + 1 ≤ R.frames ∧ 8 + (maxL + 11) + rm.locals ≤ R.locals ∧ (∀ w ∈ ws, ∀ (a' : Array Value) (U : State), s.WarmedH U.vm → w.before a' U = true) ∧ Cond.codeWith y bytes maxL ret hh ∈ ws) ∧
  (Cond.codeWith y bytes maxL ret hh).before args s = true ∧ (Cond.initialized y.cls).before args s = true ∧ (y.cls ≠ "java/lang/invoke/MethodHandle" ∧ y.cls ≠ "java/lang/invoke/VarHandle") ∧
  (∀ sig, parseMethodDescriptor y.desc = some sig → n = sig.parameters.length) ∧ (Cond.methodLink own index y).before args s = true ∧ (Cond.instanceMethod y).before args s = true ∧ (Cond.selects C y y).before args s = true
theorem vx_cwVW {own C : String} {index maxL mc ms : Nat} {y : MethodName} {bytes : ByteArray} {ret : Option FieldType} {hh : List (Nat × Nat × Nat × Nat)} {Ts ws ws' : List Cond} {rm : Room} (n : Nat) (ht : ∀ w ∈ Ts, w.before args s = true) (hT : GoodIn Ts (wsV own index C y ws)) (hw : ws = Cond.codeWith y bytes maxL ret hh :: ws') (hrc : rm.cells = mc) (hrs : rm.slots = ms)
    (hd : y.cls = C ∧ y.cls ≠ "java/lang/invoke/MethodHandle" ∧ y.cls ≠ "java/lang/invoke/VarHandle" ∧ (parseMethodDescriptor y.desc).map (fun d => d.parameters.length) = some n) (hR : rm.frames + 1 ≤ R.frames ∧ 8 + (maxL + 11) + rm.locals ≤ R.locals) :
    vx_CVW R s args own C index y bytes maxL ret hh ws rm mc ms n := by
  obtain ⟨hC, hd⟩ := hd
  subst hC
  have ok : ∀ w ∈ wsV own index y.cls y ws, w.before args s = true := fun w h => ht w (hT w h).1
  have hG : GoodIn Ts ws := fun w h => hT w (by unfold wsV; exact List.mem_append_right _ h)
  have hc : Cond.codeWith y bytes maxL ret hh ∈ ws := by rw [hw]; exact List.mem_cons_self
  refine ⟨⟨hrc, hrs, hR.1, hR.2, pay_in ht hG, hc⟩, ht _ (hG _ hc).1, ok _ (by simp [wsV]), ⟨hd.1, hd.2.1⟩, fun sig h => ?_, ok _ (by simp [wsV]), ok _ (by simp [wsV]), ok _ (by simp [wsV])⟩
  have h2 := hd.2.2
  rw [h] at h2
  exact (Option.some.inj h2).symm
theorem vx_runVW {y : MethodName} {bytes cc : ByteArray} {maxL nL mc ms n index : Nat} {ret : Option FieldType} {hh : List (Nat × Nat × Nat × Nat)} {ws : List Cond} {rm : Room} {Pc : Array Value → State → Prop} {Qc : Array Value → State → Outcome → State → Prop} {free : Addr → Prop} {Ts : List Cond} {own C : String} {b : Addr} {As rest : List Value} {g : JFrame}
    (S : CallFix p m c cc nL s args Ts own) (hM : Met l y ws rm Pc Qc mc ms free) (cw : vx_CVW R s args own C index y bytes maxL ret hh ws rm mc ms n) (hp : PreV s H C b Pc As)
    (hg : g.method = m) (hn : As.length = n) (hsize : g.locals.size = nL) (hstack : g.stack = As.reverse ++ .ref b :: rest) (hW : 2 * g.monitorRoom + (rest.map fun v => v.category).sum ≤ 8) (hdg : decode cc g.pc = .ok (.invokevirtual index, 3)) (hf : cells + mc ≤ R.cells ∧ slots + ms ≤ R.slots) :
    va_Run p l e R s m args below meth c H locs cells slots mc ms g rest (Qc (Value.ref b :: As).toArray) free := by
  obtain ⟨⟨hrc, hrs, hfr, hlo, hws, hcw⟩, hcode, hini, hy, hlen, hl, hin, hse⟩ := cw
  have hK : Back l R p e below s args y 3 8 (PreOf R mc ms Pc) (PostOf Qc mc ms free) := va_backW (hh := hh) (bytes := bytes) (maxL := maxL) (ret := ret) hM hp.1 hrc hrs hfr hlo hws hcw (fun a' U hW => word_at hW (Or.inl (by first | rfl | simp [Cond.onTables, Cond.keeps, Cond.steady])) hini)
  obtain ⟨hx, hb, hml, ho, -⟩ := S
  obtain ⟨-, ⟨cellB, hcB, hoB, hclB⟩, hPc⟩ := hp
  intro T hT X
  obtain ⟨v, vm₁, ⟨U', l2, c2, s2⟩, hW₁, X', ⟨g', mk, t, L, e1, e2, hq, h1, hL, h2, h3⟩, st⟩ := vx_callVW X hx (C := C) (hh := hh) (bytes := bytes) (maxL := maxL) (ret := ret) ho hl hin hse hcode hy hK (by rw [hT]; exact hcB) hoB hclB hg (hsize.trans hml.symm) (argsL := As) (rest := rest) (fun sig h => hn.trans (hlen sig h)) hstack hW (by rw [hb]; exact hdg)
    (fun vm₁ hW₁ => ⟨hf.1, hf.2, hPc (T.setVm vm₁) hT hW₁⟩)
  dsimp only [Pt.U, Pt.locs, Pt.cells, Pt.slots] at X' e1 e2 h1 h2 h3 st
  subst h1; subst h2; subst h3
  exact ⟨v, (T.setVm vm₁).calling g' mk (Value.ref b :: As).toArray, t, U', L, hT, X', hL, e1, e2, hq, st⟩
section
variable {y : MethodName} {bytes cc : ByteArray} {maxL nL mc ms n index : Nat} {ret : Option FieldType} {ws : List Cond} {rm : Room} {Pc : Array Value → State → Prop} {Qc : Array Value → State → Outcome → State → Prop} {XC : String → State → State → Prop} {free : Addr → Prop} {Ts : List Cond} {own C : String} {b : Addr} {As rest : List Value} {g : JFrame}
theorem vx_runVX {hh : List (Nat × Nat × Nat × Nat)} (S : CallFix p m c cc nL s args Ts own) (hM : vx_Met l y ws rm Pc Qc XC mc ms free) (cw : vx_CVW R s args own C index y bytes maxL ret hh ws rm mc ms n) (hp : PreV s H C b Pc As)
    (hg : g.method = m) (hn : As.length = n) (hsize : g.locals.size = nL) (hstack : g.stack = As.reverse ++ .ref b :: rest) (hW : 2 * g.monitorRoom + (rest.map fun v => v.category).sum ≤ 8) (hdg : decode cc g.pc = .ok (.invokevirtual index, 3)) (hf : cells + mc ≤ R.cells ∧ slots + ms ≤ R.slots) :
    vx_Run p l e R s m args below meth c H locs cells slots mc ms g rest (Qc (Value.ref b :: As).toArray) XC free := by
  obtain ⟨⟨hrc, hrs, hfr, hlo, hws, hcw⟩, hcode, hini, hy, hlen, hl, hin, hse⟩ := cw
  have hK : vx_Back l R p e below s args y 3 8 (PreOf R mc ms Pc) (PostOf Qc mc ms free) (vx_Post XC mc ms free) := vx_backW (hh := hh) (bytes := bytes) (maxL := maxL) (ret := ret) hM hp.1 hrc hrs hfr hlo hws hcw (fun a' U hW => word_at hW (Or.inl (by first | rfl | simp [Cond.onTables, Cond.keeps, Cond.steady])) hini)
  obtain ⟨hx, hb, hml, ho, -⟩ := S
  obtain ⟨-, ⟨cellB, hcB, hoB, hclB⟩, hPc⟩ := hp
  intro T hT X
  rcases vx_callVX X hx (C := C) (hh := hh) (bytes := bytes) (maxL := maxL) (ret := ret) ho hl hin hse hcode hy hK (by rw [hT]; exact hcB) hoB hclB hg (hsize.trans hml.symm) (argsL := As) (rest := rest) (fun sig h => hn.trans (hlen sig h)) hstack hW (by rw [hb]; exact hdg)
    (fun vm₁ hW₁ => ⟨hf.1, hf.2, hPc (T.setVm vm₁) hT hW₁⟩) with ⟨v, vm₁, ⟨U', l2, c2, s2⟩, hW₁, X', ⟨g', mk, t, L, e1, e2, hq, h1, hL, h2, h3⟩, st⟩ | ⟨q, vm₁, ⟨U', l2, c2, s2⟩, hW₁, X', ⟨g', mk, t, L, E, ce, e1, e2, hq, hce, hcv, hcl, h1, hL, h2, h3⟩, st⟩
  · dsimp only [Pt.U, Pt.locs, Pt.cells, Pt.slots] at X' e1 e2 h1 h2 h3 st
    subst h1; subst h2; subst h3
    exact Or.inl ⟨v, (T.setVm vm₁).calling g' mk (Value.ref b :: As).toArray, t, U', L, hT, X', hL, e1, e2, hq, st⟩
  · dsimp only [Pt.U, Pt.locs, Pt.cells, Pt.slots] at X' e1 e2 h1 h2 h3 st hcl
    subst h1; subst h2; subst h3
    exact Or.inr ⟨q, (T.setVm vm₁).calling g' mk (Value.ref b :: As).toArray, t, U', L, E, ce, hT, X', hL, e1, e2, hq, hce, hcv, vx_cls hW₁ hcl, st⟩
theorem vx_runSX {hh : List (Nat × Nat × Nat × Nat)} (S : CallFix p m c cc nL s args Ts own) (hM : vx_Met l y ws rm Pc Qc XC mc ms free) (cw : vx_CSW R s args own index y bytes maxL ret hh ws rm mc ms n) (hp : PreS s H Pc As)
    (hg : g.method = m) (hn : As.length = n) (hsize : g.locals.size = nL) (hstack : g.stack = As.reverse ++ rest) (hW : 2 * g.monitorRoom + (rest.map fun v => v.category).sum ≤ 8) (hdg : decode cc g.pc = .ok (.invokestatic index, 3)) (hf : cells + mc ≤ R.cells ∧ slots + ms ≤ R.slots) :
    vx_Run p l e R s m args below meth c H locs cells slots mc ms g rest (Qc As.toArray) XC free := by
  obtain ⟨⟨hrc, hrs, hfr, hlo, hws, hcw⟩, hcode, hini, hy, hlen, hl, hstt⟩ := cw
  have hK : vx_Back l R p e below s args y 3 8 (PreOf R mc ms Pc) (PostOf Qc mc ms free) (vx_Post XC mc ms free) := vx_backW (hh := hh) (bytes := bytes) (maxL := maxL) (ret := ret) hM hp.1 hrc hrs hfr hlo hws hcw (fun a' U hW => word_at hW (Or.inl (by first | rfl | simp [Cond.onTables, Cond.keeps, Cond.steady])) hini)
  obtain ⟨hx, hb, hml, ho, -⟩ := S
  intro T hT X
  rcases vx_callSX X hx (hh := hh) (bytes := bytes) (maxL := maxL) (ret := ret) ho hl hstt hini hcode hy hK hg (hsize.trans hml.symm) (argsL := As) (rest := rest) (fun sig h => hn.trans (hlen sig h)) hstack hW (by rw [hb]; exact hdg)
    (fun vm₁ hW₁ => ⟨hf.1, hf.2, hp.2 (T.setVm vm₁) hT hW₁⟩) with ⟨v, vm₁, ⟨U', l2, c2, s2⟩, hW₁, X', ⟨g', mk, t, L, e1, e2, hq, h1, hL, h2, h3⟩, st⟩ | ⟨q, vm₁, ⟨U', l2, c2, s2⟩, hW₁, X', ⟨g', mk, t, L, E, ce, e1, e2, hq, hce, hcv, hcl, h1, hL, h2, h3⟩, st⟩
  · dsimp only [Pt.U, Pt.locs, Pt.cells, Pt.slots] at X' e1 e2 h1 h2 h3 st
    subst h1; subst h2; subst h3
    exact Or.inl ⟨v, (T.setVm vm₁).calling g' mk As.toArray, t, U', L, hT, X', hL, e1, e2, hq, st⟩
  · dsimp only [Pt.U, Pt.locs, Pt.cells, Pt.slots] at X' e1 e2 h1 h2 h3 st hcl
    subst h1; subst h2; subst h3
    exact Or.inr ⟨q, (T.setVm vm₁).calling g' mk As.toArray, t, U', L, E, ce, hT, X', hL, e1, e2, hq, hce, hcv, vx_cls hW₁ hcl, st⟩
end
end VXH
theorem vx_ofWH {l : Launch} {y : MethodName} {ws ws' : List Cond} {rm : Room} {Pc : Array Value → State → Prop} {Qc : Array Value → State → Outcome → State → Prop} {XC : String → State → State → Prop} {mc ms : Nat} {free : Addr → Prop} {cc : ByteArray} {maxL : Nat} {ret : Option FieldType} {hh : List (Nat × Nat × Nat × Nat)}
    (hy : plainName y.cls = true) (hw : ws = Cond.codeWith y cc maxL ret hh :: ws')
    (body : ∀ p e s m args below meth c s₁, BodyLoose p l y (headSpec ws rm) cc maxL ret e s m args below meth c s₁ → c.maxLocals = maxL → Pc args s →
      W p l e (headSpec ws rm).room s m args below meth c s.heap [] 0 0 (vx_MQ below Qc XC args s mc ms free) (entryFrame m args maxL)) : vx_Met l y ws rm Pc Qc XC mc ms free := by
  refine MetFree.of_bodyS (code := cc) (maxLocals := maxL) (ret := ret) hy ?_ ?_
  · intro args s m h hn
    obtain ⟨m9, meth, c, hn9, h1, h2, h3, h4, -, h5, h6, -⟩ := Cond.codeWith_spec (atoms_spec (ws := ws) h _ (by rw [hw]; exact List.mem_cons_self))
    cases hn.symm.trans hn9
    exact ⟨meth, c, h1, h2, h3, h4, h5, h6⟩
  · intro p e s m args below meth c s₁ B hml hP _
    have hh0 : s₁.heap = s.heap := by rw [B.state]; rfl
    obtain ⟨t, a1, o, b1, b2, b3⟩ := body p e s m args below meth c s₁ B hml hP s₁ hh0 (Stand.of_body B)
    exact ⟨t, o, a1, b1, b2, b3⟩
/-! ===== END ===== -/
end
section
def RX0 : String := "ToeplitzLab$Fractions"
def TX0 : u_T := fun k => match k with
  | 0 => ("ToeplitzLab$Fractions", "tops", "[J", true)
  | _ => ("ToeplitzLab$Fractions", "bottoms", "[J", true)
def tyX0 : Nat → FieldType := fun k => match k with
  | 0 => .array .long
  | _ => .array .long
abbrev wsX00 : List Cond := u_ws RX0 TX0 2
theorem nmX0 : ∀ a, a < 2 → ∀ b, b < 2 → a ≠ b → (TX0 a).2.1 ≠ (TX0 b).2.1 := by decide +kernel
theorem tyX0_ok : ∀ k, k < 2 → parseFieldDescriptor (TX0 k).2.2.1 = some (tyX0 k) := by decide +kernel
abbrev cX0_init : ByteArray := prog_2_method_1_code
def yX0_init : MethodName := ⟨RX0, "<init>", "()V"⟩
abbrev cX0_find : ByteArray := prog_2_method_2_code
def yX0_find : MethodName := ⟨RX0, "find", "(LToeplitzLab$State;I)Z"⟩
abbrev cX0_solve : ByteArray := prog_2_method_3_code
def yX0_solve : MethodName := ⟨RX0, "solve", "(LToeplitzLab$State;)Z"⟩
abbrev cX0_rowTimes : ByteArray := prog_2_method_4_code
def yX0_rowTimes : MethodName := ⟨RX0, "rowTimes", "(LToeplitzLab$State;IJ)J"⟩
abbrev cX0_isLarge : ByteArray := prog_2_method_5_code
def yX0_isLarge : MethodName := ⟨RX0, "isLarge", "(JJ)Z"⟩
abbrev cX0_greatestDivisor : ByteArray := prog_2_method_6_code
def yX0_greatestDivisor : MethodName := ⟨RX0, "greatestDivisor", "(JJ)J"⟩
abbrev cX0_commonMultiple : ByteArray := prog_2_method_7_code
def yX0_commonMultiple : MethodName := ⟨RX0, "commonMultiple", "(JJ)J"⟩
def RX1 : String := "ToeplitzLab$Grid"
def TX1 : u_T := fun k => match k with
  | 0 => ("ToeplitzLab$Grid", "cells", "[[I", true)
  | 1 => ("ToeplitzLab$Grid", "rows", "I", false)
  | 2 => ("ToeplitzLab$Grid", "columns", "I", false)
  | 3 => ("ToeplitzLab$Grid", "modulus", "I", false)
  | 4 => ("ToeplitzLab$Grid", "determinant", "I", false)
  | _ => ("ToeplitzLab$Grid", "firstFree", "I", false)
def tyX1 : Nat → FieldType := fun k => match k with
  | 0 => .array (.array .int)
  | 1 => .int
  | 2 => .int
  | 3 => .int
  | 4 => .int
  | _ => .int
abbrev wsX10 : List Cond := u_ws RX1 TX1 6
theorem nmX1 : ∀ a, a < 6 → ∀ b, b < 6 → a ≠ b → (TX1 a).2.1 ≠ (TX1 b).2.1 := by decide +kernel
theorem tyX1_ok : ∀ k, k < 6 → parseFieldDescriptor (TX1 k).2.2.1 = some (tyX1 k) := by decide +kernel
abbrev cX1_init : ByteArray := prog_3_method_1_code
def yX1_init : MethodName := ⟨RX1, "<init>", "()V"⟩
abbrev cX1_take : ByteArray := prog_3_method_2_code
def yX1_take : MethodName := ⟨RX1, "take", "(LToeplitzLab$State;III)V"⟩
abbrev cX1_height : ByteArray := prog_3_method_3_code
def yX1_height : MethodName := ⟨RX1, "height", "()I"⟩
abbrev cX1_at : ByteArray := prog_3_method_4_code
def yX1_at : MethodName := ⟨RX1, "at", "(II)I"⟩
abbrev cX1_put : ByteArray := prog_3_method_5_code
def yX1_put : MethodName := ⟨RX1, "put", "(III)V"⟩
abbrev cX1_determinant : ByteArray := prog_3_method_6_code
def yX1_determinant : MethodName := ⟨RX1, "determinant", "()I"⟩
abbrev cX1_eliminate : ByteArray := prog_3_method_7_code
def yX1_eliminate : MethodName := ⟨RX1, "eliminate", "(I)I"⟩
abbrev cX1_pivotRow : ByteArray := prog_3_method_8_code
def yX1_pivotRow : MethodName := ⟨RX1, "pivotRow", "(III)I"⟩
abbrev cX1_leadRow : ByteArray := prog_3_method_9_code
def yX1_leadRow : MethodName := ⟨RX1, "leadRow", "(III)I"⟩
abbrev cX1_clearColumn : ByteArray := prog_3_method_10_code
def yX1_clearColumn : MethodName := ⟨RX1, "clearColumn", "(II)V"⟩
abbrev cX1_inverseOf : ByteArray := prog_3_method_11_code
def yX1_inverseOf : MethodName := ⟨RX1, "inverseOf", "(I)I"⟩
abbrev cX1_ofKernel : ByteArray := prog_3_method_12_code
def yX1_ofKernel : MethodName := ⟨RX1, "ofKernel", "(I)I"⟩
abbrev cX1_displace : ByteArray := prog_3_method_13_code
def yX1_displace : MethodName := ⟨RX1, "displace", "(I)V"⟩
def RX2 : String := "ToeplitzLab$History"
def TX2 : u_T := fun k => match k with
  | 0 => ("ToeplitzLab$History", "kept", "[LToeplitzLab$State;", true)
  | 1 => ("ToeplitzLab$History", "next", "I", false)
  | _ => ("ToeplitzLab$History", "count", "I", false)
def tyX2 : Nat → FieldType := fun k => match k with
  | 0 => .array (.object "ToeplitzLab$State")
  | 1 => .int
  | _ => .int
abbrev wsX20 : List Cond := u_ws RX2 TX2 3
theorem nmX2 : ∀ a, a < 3 → ∀ b, b < 3 → a ≠ b → (TX2 a).2.1 ≠ (TX2 b).2.1 := by decide +kernel
theorem tyX2_ok : ∀ k, k < 3 → parseFieldDescriptor (TX2 k).2.2.1 = some (tyX2 k) := by decide +kernel
abbrev cX2_init : ByteArray := prog_4_method_1_code
def yX2_init : MethodName := ⟨RX2, "<init>", "()V"⟩
abbrev cX2_remember : ByteArray := prog_4_method_2_code
def yX2_remember : MethodName := ⟨RX2, "remember", "(LToeplitzLab$State;)V"⟩
abbrev cX2_takeLatest : ByteArray := prog_4_method_3_code
def yX2_takeLatest : MethodName := ⟨RX2, "takeLatest", "()LToeplitzLab$State;"⟩
abbrev cX2_forget : ByteArray := prog_4_method_4_code
def yX2_forget : MethodName := ⟨RX2, "forget", "()V"⟩
def RX3 : String := "ToeplitzLab$Input"
def TX3 : u_T := fun k => match k with
  | 0 => ("ToeplitzLab$Input", "text", "[B", true)
  | 1 => ("ToeplitzLab$Input", "filled", "I", false)
  | 2 => ("ToeplitzLab$Input", "system", "LToeplitzLab$State;", true)
  | 3 => ("ToeplitzLab$Input", "code", "I", false)
  | 4 => ("ToeplitzLab$Input", "start", "I", false)
  | 5 => ("ToeplitzLab$Input", "length", "I", false)
  | 6 => ("ToeplitzLab$Input", "kind", "I", false)
  | 7 => ("ToeplitzLab$Input", "end", "I", false)
  | 8 => ("ToeplitzLab$Input", "number", "I", false)
  | 9 => ("ToeplitzLab$Input", "from", "I", false)
  | 10 => ("ToeplitzLab$Input", "to", "I", false)
  | 11 => ("ToeplitzLab$Input", "bands", "I", false)
  | 12 => ("ToeplitzLab$Input", "toldDiagonals", "I", false)
  | _ => ("ToeplitzLab$Input", "toldRows", "I", false)
def tyX3 : Nat → FieldType := fun k => match k with
  | 0 => .array .byte
  | 1 => .int
  | 2 => .object "ToeplitzLab$State"
  | 3 => .int
  | 4 => .int
  | 5 => .int
  | 6 => .int
  | 7 => .int
  | 8 => .int
  | 9 => .int
  | 10 => .int
  | 11 => .int
  | 12 => .int
  | _ => .int
abbrev wsX30 : List Cond := u_ws RX3 TX3 14
theorem nmX3 : ∀ a, a < 14 → ∀ b, b < 14 → a ≠ b → (TX3 a).2.1 ≠ (TX3 b).2.1 := by decide +kernel
theorem tyX3_ok : ∀ k, k < 14 → parseFieldDescriptor (TX3 k).2.2.1 = some (tyX3 k) := by decide +kernel
abbrev cX3_init : ByteArray := prog_5_method_1_code
def yX3_init : MethodName := ⟨RX3, "<init>", "()V"⟩
abbrev cX3_putWord : ByteArray := prog_5_method_2_code
def yX3_putWord : MethodName := ⟨RX3, "putWord", "(I)V"⟩
abbrev cX3_parse : ByteArray := prog_5_method_3_code
def yX3_parse : MethodName := ⟨RX3, "parse", "(I)Z"⟩
abbrev cX3_readHead : ByteArray := prog_5_method_4_code
def yX3_readHead : MethodName := ⟨RX3, "readHead", "()Z"⟩
abbrev cX3_readLine : ByteArray := prog_5_method_5_code
def yX3_readLine : MethodName := ⟨RX3, "readLine", "()Z"⟩
abbrev cX3_readRange : ByteArray := prog_5_method_6_code
def yX3_readRange : MethodName := ⟨RX3, "readRange", "(Z)Z"⟩
abbrev cX3_readRangeValue : ByteArray := prog_5_method_7_code
def yX3_readRangeValue : MethodName := ⟨RX3, "readRangeValue", "()Z"⟩
abbrev cX3_readPart : ByteArray := prog_5_method_8_code
def yX3_readPart : MethodName := ⟨RX3, "readPart", "([II)Z"⟩
abbrev cX3_reachNumber : ByteArray := prog_5_method_9_code
def yX3_reachNumber : MethodName := ⟨RX3, "reachNumber", "(IIZ)Z"⟩
abbrev cX3_isWord : ByteArray := prog_5_method_10_code
def yX3_isWord : MethodName := ⟨RX3, "isWord", "(Ljava/lang/String;)Z"⟩
abbrev cX3_fail : ByteArray := prog_5_method_11_code
def yX3_fail : MethodName := ⟨RX3, "fail", "(I)Z"⟩
abbrev cX3_advance : ByteArray := prog_5_method_12_code
def yX3_advance : MethodName := ⟨RX3, "advance", "()V"⟩
abbrev cX3_runEnd : ByteArray := prog_5_method_13_code
def yX3_runEnd : MethodName := ⟨RX3, "runEnd", "(ICC)I"⟩
abbrev cX3_readDecimals : ByteArray := prog_5_method_14_code
def yX3_readDecimals : MethodName := ⟨RX3, "readDecimals", "()I"⟩
abbrev cX3_byteAt : ByteArray := prog_5_method_15_code
def yX3_byteAt : MethodName := ⟨RX3, "byteAt", "(I)I"⟩
def RX4 : String := "ToeplitzLab$Lifter"
def TX4 : u_T := fun k => match k with
  | 0 => ("ToeplitzLab$Lifter", "grid", "LToeplitzLab$Grid;", true)
  | _ => ("ToeplitzLab$Lifter", "fresh", "[I", true)
def tyX4 : Nat → FieldType := fun k => match k with
  | 0 => .object "ToeplitzLab$Grid"
  | _ => .array .int
abbrev wsX40 : List Cond := u_ws RX4 TX4 2
theorem nmX4 : ∀ a, a < 2 → ∀ b, b < 2 → a ≠ b → (TX4 a).2.1 ≠ (TX4 b).2.1 := by decide +kernel
theorem tyX4_ok : ∀ k, k < 2 → parseFieldDescriptor (TX4 k).2.2.1 = some (tyX4 k) := by decide +kernel
abbrev cX4_init : ByteArray := prog_6_method_1_code
def yX4_init : MethodName := ⟨RX4, "<init>", "()V"⟩
abbrev cX4_prepare : ByteArray := prog_6_method_2_code
def yX4_prepare : MethodName := ⟨RX4, "prepare", "(LToeplitzLab$State;)Z"⟩
abbrev cX4_ofInverse : ByteArray := prog_6_method_3_code
def yX4_ofInverse : MethodName := ⟨RX4, "ofInverse", "(II)I"⟩
abbrev cX4_addDigit : ByteArray := prog_6_method_4_code
def yX4_addDigit : MethodName := ⟨RX4, "addDigit", "(LToeplitzLab$State;)V"⟩
abbrev cX4_nextRest : ByteArray := prog_6_method_5_code
def yX4_nextRest : MethodName := ⟨RX4, "nextRest", "(LToeplitzLab$State;I)I"⟩
abbrev cX4_liftAndEnter : ByteArray := prog_6_method_6_code
def yX4_liftAndEnter : MethodName := ⟨RX4, "liftAndEnter", "(LToeplitzLab$State;LToeplitzLab$Fractions;)Z"⟩
def RX5 : String := "ToeplitzLab$Pairs"
def TX5 : u_T := fun k => match k with
  | 0 => ("ToeplitzLab$Pairs", "lefts", "[[I", true)
  | _ => ("ToeplitzLab$Pairs", "rights", "[[I", true)
def tyX5 : Nat → FieldType := fun k => match k with
  | 0 => .array (.array .int)
  | _ => .array (.array .int)
abbrev wsX50 : List Cond := u_ws RX5 TX5 2
theorem nmX5 : ∀ a, a < 2 → ∀ b, b < 2 → a ≠ b → (TX5 a).2.1 ≠ (TX5 b).2.1 := by decide +kernel
theorem tyX5_ok : ∀ k, k < 2 → parseFieldDescriptor (TX5 k).2.2.1 = some (tyX5 k) := by decide +kernel
abbrev cX5_init : ByteArray := prog_7_method_1_code
def yX5_init : MethodName := ⟨RX5, "<init>", "()V"⟩
abbrev cX5_component : ByteArray := prog_7_method_2_code
def yX5_component : MethodName := ⟨RX5, "component", "(IIZ)I"⟩
abbrev cX5_find : ByteArray := prog_7_method_3_code
def yX5_find : MethodName := ⟨RX5, "find", "(LToeplitzLab$Grid;I)I"⟩
abbrev cX5_keep : ByteArray := prog_7_method_4_code
def yX5_keep : MethodName := ⟨RX5, "keep", "(LToeplitzLab$Grid;IIII)V"⟩
abbrev cX5_subtract : ByteArray := prog_7_method_5_code
def yX5_subtract : MethodName := ⟨RX5, "subtract", "(LToeplitzLab$Grid;II)V"⟩
def RX6 : String := "ToeplitzLab$State"
def TX6 : u_T := fun k => match k with
  | 0 => ("ToeplitzLab$State", "order", "I", false)
  | 1 => ("ToeplitzLab$State", "modulus", "I", false)
  | 2 => ("ToeplitzLab$State", "diagonals", "[I", true)
  | 3 => ("ToeplitzLab$State", "sides", "[I", true)
  | 4 => ("ToeplitzLab$State", "probes", "[I", true)
  | 5 => ("ToeplitzLab$State", "digitCount", "I", false)
  | 6 => ("ToeplitzLab$State", "power", "J", false)
  | 7 => ("ToeplitzLab$State", "sums", "[J", true)
  | 8 => ("ToeplitzLab$State", "rests", "[I", true)
  | 9 => ("ToeplitzLab$State", "entryCount", "I", false)
  | _ => ("ToeplitzLab$State", "account", "[I", true)
def tyX6 : Nat → FieldType := fun k => match k with
  | 0 => .int
  | 1 => .int
  | 2 => .array .int
  | 3 => .array .int
  | 4 => .array .int
  | 5 => .int
  | 6 => .long
  | 7 => .array .long
  | 8 => .array .int
  | 9 => .int
  | _ => .array .int
abbrev wsX60 : List Cond := u_ws RX6 TX6 11
theorem nmX6 : ∀ a, a < 11 → ∀ b, b < 11 → a ≠ b → (TX6 a).2.1 ≠ (TX6 b).2.1 := by decide +kernel
theorem tyX6_ok : ∀ k, k < 11 → parseFieldDescriptor (TX6 k).2.2.1 = some (tyX6 k) := by decide +kernel
abbrev cX6_init : ByteArray := prog_8_method_1_code
def yX6_init : MethodName := ⟨RX6, "<init>", "()V"⟩
abbrev cX6_clear : ByteArray := prog_8_method_2_code
def yX6_clear : MethodName := ⟨RX6, "clear", "()V"⟩
abbrev cX6_become : ByteArray := prog_8_method_3_code
def yX6_become : MethodName := ⟨RX6, "become", "(LToeplitzLab$State;)V"⟩
abbrev cX6_along : ByteArray := prog_8_method_4_code
def yX6_along : MethodName := ⟨RX6, "along", "(I)I"⟩
abbrev cX6_putAlong : ByteArray := prog_8_method_5_code
def yX6_putAlong : MethodName := ⟨RX6, "putAlong", "(II)V"⟩
abbrev cX6_beginRefinement : ByteArray := prog_8_method_6_code
def yX6_beginRefinement : MethodName := ⟨RX6, "beginRefinement", "()V"⟩
abbrev cX6_digitLimit : ByteArray := prog_8_method_7_code
def yX6_digitLimit : MethodName := ⟨RX6, "digitLimit", "()I"⟩
abbrev cX6_digitOf : ByteArray := prog_8_method_8_code
def yX6_digitOf : MethodName := ⟨RX6, "digitOf", "(II)I"⟩
abbrev cX6_enter : ByteArray := prog_8_method_9_code
def yX6_enter : MethodName := ⟨RX6, "enter", "(Z)V"⟩
def RX7 : String := "ToeplitzLab"
def TX7 : u_T := fun k => match k with
  | 0 => ("ToeplitzLab", "input", "LToeplitzLab$Input;", true)
  | 1 => ("ToeplitzLab", "state", "LToeplitzLab$State;", true)
  | 2 => ("ToeplitzLab", "draft", "LToeplitzLab$State;", true)
  | 3 => ("ToeplitzLab", "history", "LToeplitzLab$History;", true)
  | 4 => ("ToeplitzLab", "slots", "[LToeplitzLab$State;", true)
  | 5 => ("ToeplitzLab", "slotUsed", "[Z", true)
  | 6 => ("ToeplitzLab", "grid", "LToeplitzLab$Grid;", true)
  | 7 => ("ToeplitzLab", "pairs", "LToeplitzLab$Pairs;", true)
  | 8 => ("ToeplitzLab", "fractions", "LToeplitzLab$Fractions;", true)
  | 9 => ("ToeplitzLab", "lifter", "LToeplitzLab$Lifter;", true)
  | _ => ("ToeplitzLab", "ends", "[I", true)
def tyX7 : Nat → FieldType := fun k => match k with
  | 0 => .object "ToeplitzLab$Input"
  | 1 => .object "ToeplitzLab$State"
  | 2 => .object "ToeplitzLab$State"
  | 3 => .object "ToeplitzLab$History"
  | 4 => .array (.object "ToeplitzLab$State")
  | 5 => .array .boolean
  | 6 => .object "ToeplitzLab$Grid"
  | 7 => .object "ToeplitzLab$Pairs"
  | 8 => .object "ToeplitzLab$Fractions"
  | 9 => .object "ToeplitzLab$Lifter"
  | _ => .array .int
abbrev wsX70 : List Cond := u_ws RX7 TX7 11
theorem nmX7 : ∀ a, a < 11 → ∀ b, b < 11 → a ≠ b → (TX7 a).2.1 ≠ (TX7 b).2.1 := by decide +kernel
theorem tyX7_ok : ∀ k, k < 11 → parseFieldDescriptor (TX7 k).2.2.1 = some (tyX7 k) := by decide +kernel
abbrev cX7_init : ByteArray := prog_1_method_1_code
def yX7_init : MethodName := ⟨RX7, "<init>", "()V"⟩
abbrev cX7_append : ByteArray := prog_1_method_2_code
def yX7_append : MethodName := ⟨RX7, "append", "(IIIII)I"⟩
abbrev cX7_load : ByteArray := prog_1_method_3_code
def yX7_load : MethodName := ⟨RX7, "load", "(I)I"⟩
abbrev cX7_parseError : ByteArray := prog_1_method_4_code
def yX7_parseError : MethodName := ⟨RX7, "parseError", "()I"⟩
abbrev cX7_errorPosition : ByteArray := prog_1_method_5_code
def yX7_errorPosition : MethodName := ⟨RX7, "errorPosition", "()I"⟩
abbrev cX7_size : ByteArray := prog_1_method_7_code
def yX7_size : MethodName := ⟨RX7, "size", "()I"⟩
abbrev cX7_prime : ByteArray := prog_1_method_8_code
def yX7_prime : MethodName := ⟨RX7, "prime", "()I"⟩
abbrev cX7_diagonal : ByteArray := prog_1_method_9_code
def yX7_diagonal : MethodName := ⟨RX7, "diagonal", "(I)I"⟩
abbrev cX7_entry : ByteArray := prog_1_method_10_code
def yX7_entry : MethodName := ⟨RX7, "entry", "(II)I"⟩
abbrev cX7_side : ByteArray := prog_1_method_11_code
def yX7_side : MethodName := ⟨RX7, "side", "(I)I"⟩
abbrev cX7_probe : ByteArray := prog_1_method_12_code
def yX7_probe : MethodName := ⟨RX7, "probe", "(I)I"⟩
abbrev cX7_minor : ByteArray := prog_1_method_13_code
def yX7_minor : MethodName := ⟨RX7, "minor", "(I)I"⟩
abbrev cX7_rank : ByteArray := prog_1_method_14_code
def yX7_rank : MethodName := ⟨RX7, "rank", "()I"⟩
abbrev cX7_isRegular : ByteArray := prog_1_method_15_code
def yX7_isRegular : MethodName := ⟨RX7, "isRegular", "()Z"⟩
abbrev cX7_steps : ByteArray := prog_1_method_16_code
def yX7_steps : MethodName := ⟨RX7, "steps", "()I"⟩
abbrev cX7_stepEnd : ByteArray := prog_1_method_17_code
def yX7_stepEnd : MethodName := ⟨RX7, "stepEnd", "(I)I"⟩
abbrev cX7_longestJump : ByteArray := prog_1_method_18_code
def yX7_longestJump : MethodName := ⟨RX7, "longestJump", "()I"⟩
abbrev cX7_tail : ByteArray := prog_1_method_19_code
def yX7_tail : MethodName := ⟨RX7, "tail", "()I"⟩
abbrev cX7_regularPrimes : ByteArray := prog_1_method_20_code
def yX7_regularPrimes : MethodName := ⟨RX7, "regularPrimes", "()I"⟩
abbrev cX7_minorIf : ByteArray := prog_1_method_21_code
def yX7_minorIf : MethodName := ⟨RX7, "minorIf", "(III)I"⟩
abbrev cX7_schur : ByteArray := prog_1_method_22_code
def yX7_schur : MethodName := ⟨RX7, "schur", "(III)I"⟩
abbrev cX7_displacement : ByteArray := prog_1_method_23_code
def yX7_displacement : MethodName := ⟨RX7, "displacement", "(III)I"⟩
abbrev cX7_generators : ByteArray := prog_1_method_24_code
def yX7_generators : MethodName := ⟨RX7, "generators", "(I)I"⟩
abbrev cX7_generator : ByteArray := prog_1_method_25_code
def yX7_generator : MethodName := ⟨RX7, "generator", "(IIIZ)I"⟩
abbrev cX7_solution : ByteArray := prog_1_method_27_code
def yX7_solution : MethodName := ⟨RX7, "solution", "(I)I"⟩
abbrev cX7_inverse : ByteArray := prog_1_method_28_code
def yX7_inverse : MethodName := ⟨RX7, "inverse", "(II)I"⟩
abbrev cX7_kernel : ByteArray := prog_1_method_29_code
def yX7_kernel : MethodName := ⟨RX7, "kernel", "(I)I"⟩
abbrev cX7_isSolvable : ByteArray := prog_1_method_30_code
def yX7_isSolvable : MethodName := ⟨RX7, "isSolvable", "()Z"⟩
abbrev cX7_digits : ByteArray := prog_1_method_31_code
def yX7_digits : MethodName := ⟨RX7, "digits", "()I"⟩
abbrev cX7_digit : ByteArray := prog_1_method_33_code
def yX7_digit : MethodName := ⟨RX7, "digit", "(II)I"⟩
abbrev cX7_residual : ByteArray := prog_1_method_34_code
def yX7_residual : MethodName := ⟨RX7, "residual", "(I)I"⟩
abbrev cX7_value : ByteArray := prog_1_method_35_code
def yX7_value : MethodName := ⟨RX7, "value", "(I)J"⟩
abbrev cX7_numerator : ByteArray := prog_1_method_37_code
def yX7_numerator : MethodName := ⟨RX7, "numerator", "(I)I"⟩
abbrev cX7_product : ByteArray := prog_1_method_42_code
def yX7_product : MethodName := ⟨RX7, "product", "(I)I"⟩
abbrev cX7_circulant : ByteArray := prog_1_method_43_code
def yX7_circulant : MethodName := ⟨RX7, "circulant", "(II)I"⟩
abbrev cX7_wrapped : ByteArray := prog_1_method_44_code
def yX7_wrapped : MethodName := ⟨RX7, "wrapped", "(I)I"⟩
abbrev cX7_probeSolves : ByteArray := prog_1_method_45_code
def yX7_probeSolves : MethodName := ⟨RX7, "probeSolves", "()Z"⟩
abbrev cX7_entries : ByteArray := prog_1_method_46_code
def yX7_entries : MethodName := ⟨RX7, "entries", "()I"⟩
abbrev cX7_accountOf : ByteArray := prog_1_method_47_code
def yX7_accountOf : MethodName := ⟨RX7, "accountOf", "(II)I"⟩
abbrev cX7_setDiagonal : ByteArray := prog_1_method_48_code
def yX7_setDiagonal : MethodName := ⟨RX7, "setDiagonal", "(II)I"⟩
abbrev cX7_setSide : ByteArray := prog_1_method_49_code
def yX7_setSide : MethodName := ⟨RX7, "setSide", "(II)I"⟩
abbrev cX7_setProbe : ByteArray := prog_1_method_50_code
def yX7_setProbe : MethodName := ⟨RX7, "setProbe", "(II)I"⟩
abbrev cX7_setPrime : ByteArray := prog_1_method_51_code
def yX7_setPrime : MethodName := ⟨RX7, "setPrime", "(I)I"⟩
abbrev cX7_grow : ByteArray := prog_1_method_52_code
def yX7_grow : MethodName := ⟨RX7, "grow", "(III)I"⟩
abbrev cX7_shrink : ByteArray := prog_1_method_53_code
def yX7_shrink : MethodName := ⟨RX7, "shrink", "()I"⟩
abbrev cX7_lift : ByteArray := prog_1_method_54_code
def yX7_lift : MethodName := ⟨RX7, "lift", "()I"⟩
abbrev cX7_refine : ByteArray := prog_1_method_55_code
def yX7_refine : MethodName := ⟨RX7, "refine", "(I)I"⟩
abbrev cX7_undo : ByteArray := prog_1_method_56_code
def yX7_undo : MethodName := ⟨RX7, "undo", "()I"⟩
abbrev cX7_undoable : ByteArray := prog_1_method_57_code
def yX7_undoable : MethodName := ⟨RX7, "undoable", "()I"⟩
abbrev cX7_save : ByteArray := prog_1_method_58_code
def yX7_save : MethodName := ⟨RX7, "save", "(I)I"⟩
abbrev cX7_restore : ByteArray := prog_1_method_59_code
def yX7_restore : MethodName := ⟨RX7, "restore", "(I)I"⟩
abbrev cX7_requireSystem : ByteArray := prog_1_method_60_code
def yX7_requireSystem : MethodName := ⟨RX7, "requireSystem", "()V"⟩
abbrev cX7_requireRow : ByteArray := prog_1_method_61_code
def yX7_requireRow : MethodName := ⟨RX7, "requireRow", "(I)V"⟩
abbrev cX7_requireBehind : ByteArray := prog_1_method_62_code
def yX7_requireBehind : MethodName := ⟨RX7, "requireBehind", "(II)V"⟩
abbrev cX7_requireWrappedRow : ByteArray := prog_1_method_63_code
def yX7_requireWrappedRow : MethodName := ⟨RX7, "requireWrappedRow", "(I)V"⟩
abbrev cX7_requireDiagonal : ByteArray := prog_1_method_64_code
def yX7_requireDiagonal : MethodName := ⟨RX7, "requireDiagonal", "(I)V"⟩
abbrev cX7_requireSize : ByteArray := prog_1_method_65_code
def yX7_requireSize : MethodName := ⟨RX7, "requireSize", "(I)V"⟩
abbrev cX7_requireSlot : ByteArray := prog_1_method_66_code
def yX7_requireSlot : MethodName := ⟨RX7, "requireSlot", "(I)V"⟩
abbrev cX7_requireWithin : ByteArray := prog_1_method_67_code
def yX7_requireWithin : MethodName := ⟨RX7, "requireWithin", "(II)V"⟩
abbrev cX7_requireFraction : ByteArray := prog_1_method_68_code
def yX7_requireFraction : MethodName := ⟨RX7, "requireFraction", "(I)V"⟩
abbrev cX7_requireLifter : ByteArray := prog_1_method_69_code
def yX7_requireLifter : MethodName := ⟨RX7, "requireLifter", "()V"⟩
abbrev cX7_isListed : ByteArray := prog_1_method_70_code
def yX7_isListed : MethodName := ⟨RX7, "isListed", "(I)Z"⟩
abbrev cX7_reduced : ByteArray := prog_1_method_71_code
def yX7_reduced : MethodName := ⟨RX7, "reduced", "(II)I"⟩
abbrev cX7_leadingMinor : ByteArray := prog_1_method_72_code
def yX7_leadingMinor : MethodName := ⟨RX7, "leadingMinor", "(II)I"⟩
abbrev cX7_findSteps : ByteArray := prog_1_method_73_code
def yX7_findSteps : MethodName := ⟨RX7, "findSteps", "()I"⟩
abbrev cX7_startBehind : ByteArray := prog_1_method_74_code
def yX7_startBehind : MethodName := ⟨RX7, "startBehind", "(I)I"⟩
abbrev cX7_complementBehind : ByteArray := prog_1_method_75_code
def yX7_complementBehind : MethodName := ⟨RX7, "complementBehind", "(I)V"⟩
abbrev cX7_pairsBehind : ByteArray := prog_1_method_76_code
def yX7_pairsBehind : MethodName := ⟨RX7, "pairsBehind", "(I)I"⟩
abbrev cX7_eliminateWithSides : ByteArray := prog_1_method_77_code
def yX7_eliminateWithSides : MethodName := ⟨RX7, "eliminateWithSides", "()I"⟩
abbrev cX7_timesProbe : ByteArray := prog_1_method_78_code
def yX7_timesProbe : MethodName := ⟨RX7, "timesProbe", "(I)I"⟩
abbrev cX7_aroundCircle : ByteArray := prog_1_method_79_code
def yX7_aroundCircle : MethodName := ⟨RX7, "aroundCircle", "(I)I"⟩
def RX8 : String := "ToeplitzLabLaw$Draws"
def TX8 : u_T := fun k => match k with
  | 0 => ("ToeplitzLabLaw$Draws", "cells", "[I", true)
  | _ => ("ToeplitzLabLaw$Draws", "at", "I", false)
def tyX8 : Nat → FieldType := fun k => match k with
  | 0 => .array .int
  | _ => .int
abbrev wsX80 : List Cond := u_ws RX8 TX8 2
theorem nmX8 : ∀ a, a < 2 → ∀ b, b < 2 → a ≠ b → (TX8 a).2.1 ≠ (TX8 b).2.1 := by decide +kernel
theorem tyX8_ok : ∀ k, k < 2 → parseFieldDescriptor (TX8 k).2.2.1 = some (tyX8 k) := by decide +kernel
abbrev cX8_init : ByteArray := prog_10_method_1_code
def yX8_init : MethodName := ⟨RX8, "<init>", "([I)V"⟩
abbrev cX8_next : ByteArray := prog_10_method_2_code
def yX8_next : MethodName := ⟨RX8, "next", "(II)I"⟩
def RX9 : String := "ToeplitzLabLaw$Lab"
def TX9 : u_T := fun k => match k with
  | 0 => ("ToeplitzLabLaw$Lab", "text", "Ljava/lang/StringBuilder;", true)
  | 1 => ("ToeplitzLabLaw$Lab", "diagonal", "[I", true)
  | 2 => ("ToeplitzLabLaw$Lab", "side", "[I", true)
  | 3 => ("ToeplitzLabLaw$Lab", "probe", "[I", true)
  | 4 => ("ToeplitzLabLaw$Lab", "size", "I", false)
  | _ => ("ToeplitzLabLaw$Lab", "prime", "I", false)
def tyX9 : Nat → FieldType := fun k => match k with
  | 0 => .object "java/lang/StringBuilder"
  | 1 => .array .int
  | 2 => .array .int
  | 3 => .array .int
  | 4 => .int
  | _ => .int
abbrev wsX90 : List Cond := u_ws RX9 TX9 6
theorem nmX9 : ∀ a, a < 6 → ∀ b, b < 6 → a ≠ b → (TX9 a).2.1 ≠ (TX9 b).2.1 := by decide +kernel
theorem tyX9_ok : ∀ k, k < 6 → parseFieldDescriptor (TX9 k).2.2.1 = some (tyX9 k) := by decide +kernel
abbrev cX9_init : ByteArray := prog_11_method_1_code
def yX9_init : MethodName := ⟨RX9, "<init>", "(LToeplitzLabLaw$Draws;)V"⟩
abbrev cX9_number : ByteArray := prog_11_method_2_code
def yX9_number : MethodName := ⟨RX9, "number", "(Ljava/lang/StringBuilder;I)Ljava/lang/StringBuilder;"⟩
abbrev cX9_at : ByteArray := prog_11_method_3_code
def yX9_at : MethodName := ⟨RX9, "at", "(II)I"⟩
abbrev cX9_mod : ByteArray := prog_11_method_4_code
def yX9_mod : MethodName := ⟨RX9, "mod", "(JI)I"⟩
abbrev cX9_mod_ : ByteArray := prog_11_method_5_code
def yX9_mod_ : MethodName := ⟨RX9, "mod", "(J)I"⟩
abbrev cX9_undone : ByteArray := prog_11_method_6_code
def yX9_undone : MethodName := ⟨RX9, "undone", "(I)I"⟩
abbrev cX9_det : ByteArray := prog_11_method_7_code
def yX9_det : MethodName := ⟨RX9, "det", "(II)J"⟩
abbrev cX9_first : ByteArray := prog_11_method_8_code
def yX9_first : MethodName := ⟨RX9, "first", "(I)I"⟩
abbrev cX9_minor : ByteArray := prog_11_method_9_code
def yX9_minor : MethodName := ⟨RX9, "minor", "(I)I"⟩
abbrev cX9_isRegular : ByteArray := prog_11_method_10_code
def yX9_isRegular : MethodName := ⟨RX9, "isRegular", "()Z"⟩
abbrev cX9_areFree : ByteArray := prog_11_method_11_code
def yX9_areFree : MethodName := ⟨RX9, "areFree", "(I)Z"⟩
abbrev cX9_rank : ByteArray := prog_11_method_12_code
def yX9_rank : MethodName := ⟨RX9, "rank", "()I"⟩
abbrev cX9_product : ByteArray := prog_11_method_13_code
def yX9_product : MethodName := ⟨RX9, "product", "(I)I"⟩
def RX10 : String := "ToeplitzLabModel"
def TX10 : u_T := fun k => match k with
  | _ => ("", "", "", false)
def tyX10 : Nat → FieldType := fun k => match k with
  | _ => .int
abbrev wsX100 : List Cond := u_ws RX10 TX10 0
theorem nmX10 : ∀ a, a < 0 → ∀ b, b < 0 → a ≠ b → (TX10 a).2.1 ≠ (TX10 b).2.1 := by decide +kernel
theorem tyX10_ok : ∀ k, k < 0 → parseFieldDescriptor (TX10 k).2.2.1 = some (tyX10 k) := by decide +kernel
def RJx145de : String := "java/io/Serializable"
def TJx145de : u_T := fun k => match k with
  | _ => ("", "", "", false)
def RJ5 : String := "java/lang/AbstractStringBuilder"
def TJ5 : u_T := fun k => match k with
  | _ => ("", "", "", false)
abbrev cJ5_init_d00df : ByteArray := prog_13_method_2_code
def yJ5_init_d00df : MethodName := ⟨RJ5, "<init>", "(I)V"⟩
abbrev cJ5_init_a7421 : ByteArray := prog_13_method_3_code
def yJ5_init_a7421 : MethodName := ⟨RJ5, "<init>", "(Ljava/lang/String;)V"⟩
abbrev cJ5_length_8abf5 : ByteArray := prog_13_method_6_code
def yJ5_length_8abf5 : MethodName := ⟨RJ5, "length", "()I"⟩
abbrev cJ5_ensureCapacityInternal_d00df : ByteArray := prog_13_method_9_code
def yJ5_ensureCapacityInternal_d00df : MethodName := ⟨RJ5, "ensureCapacityInternal", "(I)V"⟩
abbrev cJ5_newCapacity_0f7a4 : ByteArray := prog_13_method_10_code
def yJ5_newCapacity_0f7a4 : MethodName := ⟨RJ5, "newCapacity", "(I)I"⟩
abbrev cJ5_inflate_da8c8 : ByteArray := prog_13_method_11_code
def yJ5_inflate_da8c8 : MethodName := ⟨RJ5, "inflate", "()V"⟩
abbrev cJ5_append_cf1ce : ByteArray := prog_13_method_22_code
def yJ5_append_cf1ce : MethodName := ⟨RJ5, "append", "(Ljava/lang/String;)Ljava/lang/AbstractStringBuilder;"⟩
abbrev cJ5_appendNull_278bc : ByteArray := prog_13_method_26_code
def yJ5_appendNull_278bc : MethodName := ⟨RJ5, "appendNull", "()Ljava/lang/AbstractStringBuilder;"⟩
abbrev cJ5_append_3fe6f : ByteArray := prog_13_method_31_code
def yJ5_append_3fe6f : MethodName := ⟨RJ5, "append", "(C)Ljava/lang/AbstractStringBuilder;"⟩
abbrev cJ5_append_c97b9 : ByteArray := prog_13_method_32_code
def yJ5_append_c97b9 : MethodName := ⟨RJ5, "append", "(I)Ljava/lang/AbstractStringBuilder;"⟩
abbrev cJ5_getValue_6d5f1 : ByteArray := prog_13_method_64_code
def yJ5_getValue_6d5f1 : MethodName := ⟨RJ5, "getValue", "()[B"⟩
abbrev cJ5_isLatin1_aae02 : ByteArray := prog_13_method_68_code
def yJ5_isLatin1_aae02 : MethodName := ⟨RJ5, "isLatin1", "()Z"⟩
abbrev cJ5_inflateIfNeededFor_a7421 : ByteArray := prog_13_method_71_code
def yJ5_inflateIfNeededFor_a7421 : MethodName := ⟨RJ5, "inflateIfNeededFor", "(Ljava/lang/String;)V"⟩
abbrev cJ5_putStringAt_47b60 : ByteArray := prog_13_method_73_code
def yJ5_putStringAt_47b60 : MethodName := ⟨RJ5, "putStringAt", "(ILjava/lang/String;)V"⟩
def RJx2cfe8 : String := "java/lang/Appendable"
def TJx2cfe8 : u_T := fun k => match k with
  | _ => ("", "", "", false)
def RJx9f9b0 : String := "java/lang/CharSequence"
def TJx9f9b0 : u_T := fun k => match k with
  | _ => ("", "", "", false)
def RJx8e188 : String := "java/lang/Cloneable"
def TJx8e188 : u_T := fun k => match k with
  | _ => ("", "", "", false)
def RJxb160c : String := "java/lang/Comparable"
def TJxb160c : u_T := fun k => match k with
  | _ => ("", "", "", false)
def RJ6 : String := "java/lang/Integer"
def TJ6 : u_T := fun k => match k with
  | _ => ("", "", "", false)
abbrev cJ6_getChars_ba4f3 : ByteArray := prog_19_method_12_code
def yJ6_getChars_ba4f3 : MethodName := ⟨RJ6, "getChars", "(II[B)I"⟩
abbrev cJ6_stringSize_0f7a4 : ByteArray := prog_19_method_13_code
def yJ6_stringSize_0f7a4 : MethodName := ⟨RJ6, "stringSize", "(I)I"⟩
abbrev cJ6_numberOfTrailingZeros_0f7a4 : ByteArray := prog_19_method_48_code
def yJ6_numberOfTrailingZeros_0f7a4 : MethodName := ⟨RJ6, "numberOfTrailingZeros", "(I)I"⟩
abbrev cJ6_bitCount_0f7a4 : ByteArray := prog_19_method_49_code
def yJ6_bitCount_0f7a4 : MethodName := ⟨RJ6, "bitCount", "(I)I"⟩
def RJ9 : String := "java/lang/Math"
def TJ9 : u_T := fun k => match k with
  | _ => ("", "", "", false)
abbrev cJ9_floorMod_7cf53 : ByteArray := prog_20_method_50_code
def yJ9_floorMod_7cf53 : MethodName := ⟨RJ9, "floorMod", "(II)I"⟩
abbrev cJ9_abs_0f7a4 : ByteArray := prog_20_method_59_code
def yJ9_abs_0f7a4 : MethodName := ⟨RJ9, "abs", "(I)I"⟩
abbrev cJ9_abs_067f4 : ByteArray := prog_20_method_61_code
def yJ9_abs_067f4 : MethodName := ⟨RJ9, "abs", "(J)J"⟩
abbrev cJ9_max_7cf53 : ByteArray := prog_20_method_65_code
def yJ9_max_7cf53 : MethodName := ⟨RJ9, "max", "(II)I"⟩
abbrev cJ9_min_7cf53 : ByteArray := prog_20_method_69_code
def yJ9_min_7cf53 : MethodName := ⟨RJ9, "min", "(II)I"⟩
def RJxd2413 : String := "java/lang/Number"
def TJxd2413 : u_T := fun k => match k with
  | _ => ("", "", "", false)
def RJ0 : String := "java/lang/String"
def TJ0 : u_T := fun k => match k with
  | 0 => ("java/lang/String", "value", "[B", true)
  | 1 => ("java/lang/String", "coder", "B", true)
  | 2 => ("java/lang/String", "hash", "I", false)
  | _ => ("java/lang/String", "hashIsZero", "Z", false)
abbrev cJ0_init_81219 : ByteArray := prog_23_method_53_code
def yJ0_init_81219 : MethodName := ⟨RJ0, "<init>", "(Ljava/lang/StringBuilder;)V"⟩
abbrev cJ0_length_8abf5 : ByteArray := prog_23_method_54_code
def yJ0_length_8abf5 : MethodName := ⟨RJ0, "length", "()I"⟩
abbrev cJ0_charAt_5068e : ByteArray := prog_23_method_56_code
def yJ0_charAt_5068e : MethodName := ⟨RJ0, "charAt", "(I)C"⟩
abbrev cJ0_getBytes_840e7 : ByteArray := prog_23_method_147_code
def yJ0_getBytes_840e7 : MethodName := ⟨RJ0, "getBytes", "([BIB)V"⟩
abbrev cJ0_init_db425 : ByteArray := prog_23_method_150_code
def yJ0_init_db425 : MethodName := ⟨RJ0, "<init>", "(Ljava/lang/AbstractStringBuilder;Ljava/lang/Void;)V"⟩
abbrev cJ0_coder_7d493 : ByteArray := prog_23_method_152_code
def yJ0_coder_7d493 : MethodName := ⟨RJ0, "coder", "()B"⟩
abbrev cJ0_isLatin1_aae02 : ByteArray := prog_23_method_154_code
def yJ0_isLatin1_aae02 : MethodName := ⟨RJ0, "isLatin1", "()Z"⟩
abbrev cJ0_checkIndex_df160 : ByteArray := prog_23_method_155_code
def yJ0_checkIndex_df160 : MethodName := ⟨RJ0, "checkIndex", "(II)V"⟩
abbrev cJ0_checkBoundsOffCount_cabcc : ByteArray := prog_23_method_157_code
def yJ0_checkBoundsOffCount_cabcc : MethodName := ⟨RJ0, "checkBoundsOffCount", "(III)I"⟩
abbrev cJ0_checkBoundsBeginEnd_23922 : ByteArray := prog_23_method_158_code
def yJ0_checkBoundsBeginEnd_23922 : MethodName := ⟨RJ0, "checkBoundsBeginEnd", "(III)V"⟩
def RJ4 : String := "java/lang/StringBuilder"
def TJ4 : u_T := fun k => match k with
  | 0 => ("java/lang/AbstractStringBuilder", "value", "[B", false)
  | 1 => ("java/lang/AbstractStringBuilder", "coder", "B", false)
  | 2 => ("java/lang/AbstractStringBuilder", "maybeLatin1", "Z", false)
  | _ => ("java/lang/AbstractStringBuilder", "count", "I", false)
abbrev cJ4_init_da8c8 : ByteArray := prog_24_method_1_code
def yJ4_init_da8c8 : MethodName := ⟨RJ4, "<init>", "()V"⟩
abbrev cJ4_init_a7421 : ByteArray := prog_24_method_3_code
def yJ4_init_a7421 : MethodName := ⟨RJ4, "<init>", "(Ljava/lang/String;)V"⟩
abbrev cJ4_append_15ec4 : ByteArray := prog_24_method_7_code
def yJ4_append_15ec4 : MethodName := ⟨RJ4, "append", "(Ljava/lang/String;)Ljava/lang/StringBuilder;"⟩
abbrev cJ4_append_cf468 : ByteArray := prog_24_method_14_code
def yJ4_append_cf468 : MethodName := ⟨RJ4, "append", "(C)Ljava/lang/StringBuilder;"⟩
abbrev cJ4_append_bf812 : ByteArray := prog_24_method_15_code
def yJ4_append_bf812 : MethodName := ⟨RJ4, "append", "(I)Ljava/lang/StringBuilder;"⟩
abbrev cJ4_toString_0e30d : ByteArray := prog_24_method_42_code
def yJ4_toString_0e30d : MethodName := ⟨RJ4, "toString", "()Ljava/lang/String;"⟩
abbrev cJ4_append_cf1ce : ByteArray := prog_24_method_80_code
def yJ4_append_cf1ce : MethodName := ⟨RJ4, "append", "(Ljava/lang/String;)Ljava/lang/AbstractStringBuilder;"⟩
abbrev cJ4_length_8abf5 : ByteArray := prog_24_method_93_code
def yJ4_length_8abf5 : MethodName := ⟨RJ4, "length", "()I"⟩
def RJ1 : String := "java/lang/StringLatin1"
def TJ1 : u_T := fun k => match k with
  | _ => ("", "", "", false)
abbrev cJ1_charAt_3b067 : ByteArray := prog_25_method_2_code
def yJ1_charAt_3b067 : MethodName := ⟨RJ1, "charAt", "([BI)C"⟩
abbrev cJ1_canEncode_fc78d : ByteArray := prog_25_method_3_code
def yJ1_canEncode_fc78d : MethodName := ⟨RJ1, "canEncode", "(C)Z"⟩
abbrev cJ1_inflate_0e8fd : ByteArray := prog_25_method_50_code
def yJ1_inflate_0e8fd : MethodName := ⟨RJ1, "inflate", "([BI[BII)V"⟩
def RJ2 : String := "java/lang/StringUTF16"
def TJ2 : u_T := fun k => match k with
  | _ => ("", "", "", false)
abbrev cJ2_newBytesFor_77867 : ByteArray := prog_26_method_2_code
def yJ2_newBytesFor_77867 : MethodName := ⟨RJ2, "newBytesFor", "(I)[B"⟩
abbrev cJ2_newBytesLength_0f7a4 : ByteArray := prog_26_method_3_code
def yJ2_newBytesLength_0f7a4 : MethodName := ⟨RJ2, "newBytesLength", "(I)I"⟩
abbrev cJ2_putChar_b72d1 : ByteArray := prog_26_method_4_code
def yJ2_putChar_b72d1 : MethodName := ⟨RJ2, "putChar", "([BII)V"⟩
abbrev cJ2_getChar_3b067 : ByteArray := prog_26_method_5_code
def yJ2_getChar_3b067 : MethodName := ⟨RJ2, "getChar", "([BI)C"⟩
abbrev cJ2_length_9d52b : ByteArray := prog_26_method_6_code
def yJ2_length_9d52b : MethodName := ⟨RJ2, "length", "([B)I"⟩
abbrev cJ2_coderFromArrayLen_85cad : ByteArray := prog_26_method_15_code
def yJ2_coderFromArrayLen_85cad : MethodName := ⟨RJ2, "coderFromArrayLen", "([BI)B"⟩
abbrev cJ2_compress_39247 : ByteArray := prog_26_method_17_code
def yJ2_compress_39247 : MethodName := ⟨RJ2, "compress", "([BII)[B"⟩
abbrev cJ2_compress_5af95 : ByteArray := prog_26_method_22_code
def yJ2_compress_5af95 : MethodName := ⟨RJ2, "compress", "([BI[BII)I"⟩
abbrev cJ2_putCharSB_b72d1 : ByteArray := prog_26_method_71_code
def yJ2_putCharSB_b72d1 : MethodName := ⟨RJ2, "putCharSB", "([BII)V"⟩
abbrev cJ2_getChars_46870 : ByteArray := prog_26_method_77_code
def yJ2_getChars_46870 : MethodName := ⟨RJ2, "getChars", "(III[B)I"⟩
abbrev cJ2_putCharsAt_cd4e5 : ByteArray := prog_26_method_81_code
def yJ2_putCharsAt_cd4e5 : MethodName := ⟨RJ2, "putCharsAt", "([BICCCC)I"⟩
abbrev cJ2_charAt_3b067 : ByteArray := prog_26_method_83_code
def yJ2_charAt_3b067 : MethodName := ⟨RJ2, "charAt", "([BI)C"⟩
abbrev cJ2_inflate_0e8fd : ByteArray := prog_26_method_86_code
def yJ2_inflate_0e8fd : MethodName := ⟨RJ2, "inflate", "([BI[BII)V"⟩
abbrev cJ2_getChars_ba4f3 : ByteArray := prog_26_method_89_code
def yJ2_getChars_ba4f3 : MethodName := ⟨RJ2, "getChars", "(II[B)I"⟩
abbrev cJ2_checkIndex_2214a : ByteArray := prog_26_method_91_code
def yJ2_checkIndex_2214a : MethodName := ⟨RJ2, "checkIndex", "(I[B)V"⟩
abbrev cJ2_checkBoundsBeginEnd_d044e : ByteArray := prog_26_method_93_code
def yJ2_checkBoundsBeginEnd_d044e : MethodName := ⟨RJ2, "checkBoundsBeginEnd", "(II[B)V"⟩
abbrev cJ2_checkBoundsOffCount_d044e : ByteArray := prog_26_method_94_code
def yJ2_checkBoundsOffCount_d044e : MethodName := ⟨RJ2, "checkBoundsOffCount", "(II[B)V"⟩
def RJ10 : String := "java/lang/System"
def TJ10 : u_T := fun k => match k with
  | _ => ("", "", "", false)
def RJxfd54e : String := "java/lang/constant/Constable"
def TJxfd54e : u_T := fun k => match k with
  | _ => ("", "", "", false)
def RJx3cf43 : String := "java/lang/constant/ConstantDesc"
def TJx3cf43 : u_T := fun k => match k with
  | _ => ("", "", "", false)
def RJ7 : String := "java/util/Arrays"
def TJ7 : u_T := fun k => match k with
  | _ => ("", "", "", false)
abbrev cJ7_fill_d0a16 : ByteArray := prog_29_method_101_code
def yJ7_fill_d0a16 : MethodName := ⟨RJ7, "fill", "([JJ)V"⟩
abbrev cJ7_fill_53178 : ByteArray := prog_29_method_103_code
def yJ7_fill_53178 : MethodName := ⟨RJ7, "fill", "([II)V"⟩
abbrev cJ7_copyOf_9075b : ByteArray := prog_29_method_121_code
def yJ7_copyOf_9075b : MethodName := ⟨RJ7, "copyOf", "([BI)[B"⟩
abbrev cJ7_checkLength_df160 : ByteArray := prog_29_method_131_code
def yJ7_checkLength_df160 : MethodName := ⟨RJ7, "checkLength", "(II)V"⟩
abbrev cJ7_copyOfRange_39247 : ByteArray := prog_29_method_132_code
def yJ7_copyOfRange_39247 : MethodName := ⟨RJ7, "copyOfRange", "([BII)[B"⟩
abbrev cJ7_copyOfRangeByte_39247 : ByteArray := prog_29_method_133_code
def yJ7_copyOfRangeByte_39247 : MethodName := ⟨RJ7, "copyOfRangeByte", "([BII)[B"⟩
def RJ8 : String := "jdk/internal/util/ArraysSupport"
def TJ8 : u_T := fun k => match k with
  | _ => ("", "", "", false)
abbrev cJ8_newLength_cabcc : ByteArray := prog_30_method_27_code
def yJ8_newLength_cabcc : MethodName := ⟨RJ8, "newLength", "(III)I"⟩
abbrev cJ8_hugeLength_7cf53 : ByteArray := prog_30_method_28_code
def yJ8_hugeLength_7cf53 : MethodName := ⟨RJ8, "hugeLength", "(II)I"⟩
def RJ3 : String := "jdk/internal/util/Preconditions"
def TJ3 : u_T := fun k => match k with
  | _ => ("", "", "", false)
abbrev cJ3_checkIndex_8e157 : ByteArray := prog_31_method_11_code
def yJ3_checkIndex_8e157 : MethodName := ⟨RJ3, "checkIndex", "(IILjava/util/function/BiFunction;)I"⟩
abbrev cJ3_checkFromToIndex_8c36e : ByteArray := prog_31_method_12_code
def yJ3_checkFromToIndex_8c36e : MethodName := ⟨RJ3, "checkFromToIndex", "(IIILjava/util/function/BiFunction;)I"⟩
abbrev cJ3_checkFromIndexSize_8c36e : ByteArray := prog_31_method_13_code
def yJ3_checkFromIndexSize_8c36e : MethodName := ⟨RJ3, "checkFromIndexSize", "(IIILjava/util/function/BiFunction;)I"⟩
def RL : String := "ToeplitzLabLaw"
abbrev cL_feeds : ByteArray := method_2_code
def yL_feeds : MethodName := ⟨RL, "feeds", "(LToeplitzLab;Ljava/lang/String;)Z"⟩
abbrev cL_tell : ByteArray := method_3_code
def yL_tell : MethodName := ⟨RL, "tell", "(LToeplitzLab;Ljava/lang/String;)I"⟩
abbrev cL_calls : ByteArray := method_4_code
def yL_calls : MethodName := ⟨RL, "calls", "(LToeplitzLab;IIII)J"⟩
abbrev cL_thrown : ByteArray := method_5_code
def yL_thrown : MethodName := ⟨RL, "thrown", "(LToeplitzLab;IIII)I"⟩
abbrev cL_isLike : ByteArray := method_6_code
def yL_isLike : MethodName := ⟨RL, "isLike", "(LToeplitzLab;LToeplitzLabLaw$Lab;)Z"⟩
abbrev cL_act : ByteArray := method_7_code
def yL_act : MethodName := ⟨RL, "act", "(LToeplitzLab;LToeplitzLabLaw$Lab;LToeplitzLabLaw$Draws;)Z"⟩
abbrev cL_minors : ByteArray := method_8_code
def yL_minors : MethodName := ⟨RL, "minors", "(LToeplitzLab;LToeplitzLabLaw$Lab;LToeplitzLabLaw$Draws;)Z"⟩
abbrev cL_with : ByteArray := method_9_code
def yL_with : MethodName := ⟨RL, "with", "(LToeplitzLabLaw$Lab;I[I)J"⟩
abbrev cL_solutions : ByteArray := method_10_code
def yL_solutions : MethodName := ⟨RL, "solutions", "(LToeplitzLab;LToeplitzLabLaw$Lab;)Z"⟩
abbrev cL_kernel : ByteArray := method_11_code
def yL_kernel : MethodName := ⟨RL, "kernel", "(LToeplitzLab;LToeplitzLabLaw$Lab;)Z"⟩
abbrev cL_products : ByteArray := method_12_code
def yL_products : MethodName := ⟨RL, "products", "(LToeplitzLab;LToeplitzLabLaw$Lab;)Z"⟩
abbrev cL_law : ByteArray := code
def yL_law : MethodName := ⟨RL, "law", "([I)Z"⟩
abbrev vwCl : List vw_C := [(RX0, TX0, 2), (RX1, TX1, 6), (RX2, TX2, 3), (RX3, TX3, 14), (RX4, TX4, 2), (RX5, TX5, 2), (RX6, TX6, 11), (RX7, TX7, 11), (RX8, TX8, 2), (RX9, TX9, 6), (RJ0, TJ0, 4), (RJ4, TJ4, 4)]
abbrev cX9_det0 : ByteArray := cX9_det
abbrev yX9_det0 : MethodName := yX9_det
abbrev cX9_det1 : ByteArray := cX9_det
abbrev yX9_det1 : MethodName := yX9_det
abbrev cX9_det2 : ByteArray := cX9_det
abbrev yX9_det2 : MethodName := yX9_det
abbrev cX9_det3 : ByteArray := cX9_det
abbrev yX9_det3 : MethodName := yX9_det
abbrev cX9_det4 : ByteArray := cX9_det
abbrev yX9_det4 : MethodName := yX9_det
abbrev cX9_det5 : ByteArray := cX9_det
abbrev yX9_det5 : MethodName := yX9_det
end
section
/-! ===== a small machine over the system's things: a thing is (kind, number, row); what whole numbers and longs they hold is I and J; which of the things that are made late stand is B ===== -/
abbrev gR : Type := Nat × Nat × Nat
abbrev gV : Type := Value ⊕ gR
abbrev gI : Type := Nat → Nat → Nat → Nat → Int32
abbrev gJ : Type := Nat → Nat → Nat → Int64
abbrev gB : Type := Nat → Bool
abbrev gM : Type := List (Nat × gV) → List gV → gI → gJ → gB → Nat → Nat → Prop
/-- a row of code: place, length, instruction, two numbers, a value -/
abbrev gE : Type := Nat × Nat × Instr × Nat × Nat × gV
abbrev gQt : Type := gV → gI → gJ → gB → Prop
abbrev gXt : Type := Nat → gI → gJ → gB → Prop
/-- the objects' kinds: the number in vwCl; the fields (0 int, 1 long, 2 boolean, 100 + k a thing of kind k whose number is greater by the second) -/
def gobj (k : Nat) : Option (Nat × List (Nat × Nat)) := match k with
  | 3 => some (7, [(104, 0), (106, 0), (106, 1), (113, 0), (115, 0), (116, 0), (117, 0), (120, 0), (125, 0), (128, 0), (130, 0)])
  | 4 => some (3, [(105, 0), (0, 0), (106, 2), (0, 0), (0, 0), (0, 0), (0, 0), (0, 0), (0, 0), (0, 0), (0, 0), (0, 0), (0, 0), (0, 0)])
  | 6 => some (6, [(0, 0), (0, 0), (107, 0), (108, 0), (109, 0), (0, 0), (1, 0), (110, 0), (111, 0), (0, 0), (112, 0)])
  | 13 => some (2, [(114, 0), (0, 0), (0, 0)])
  | 17 => some (1, [(118, 0), (0, 0), (0, 0), (0, 0), (0, 0), (0, 0)])
  | 20 => some (5, [(121, 0), (123, 0)])
  | 25 => some (0, [(126, 0), (127, 0)])
  | 28 => some (4, [(117, 1), (129, 0)])
  | 48 => some (8, [(100, 0), (0, 0)])
  | 49 => some (9, [(101, 2), (150, 0), (151, 0), (152, 0), (0, 0), (0, 0)])
  | _ => none
/-- the arrays' kinds: what they hold (0 int, 1 long, 2 boolean, 3 byte, 4 double, 5 rows of the kind that stands third, 6 states from the number that stands third on), how many -/
def garr (k : Nat) : Option (Nat × Nat × Nat) := match k with
  | 5 => some (3, 700, 0)
  | 7 => some (0, 13, 0)
  | 8 => some (0, 7, 0)
  | 9 => some (0, 7, 0)
  | 10 => some (1, 7, 0)
  | 11 => some (0, 7, 0)
  | 12 => some (0, 90, 0)
  | 14 => some (6, 8, 3)
  | 15 => some (6, 2, 11)
  | 16 => some (2, 2, 0)
  | 18 => some (5, 7, 19)
  | 19 => some (0, 14, 0)
  | 21 => some (5, 7, 22)
  | 22 => some (0, 7, 0)
  | 23 => some (5, 7, 24)
  | 24 => some (0, 7, 0)
  | 26 => some (1, 7, 0)
  | 27 => some (1, 7, 0)
  | 29 => some (0, 7, 0)
  | 30 => some (0, 8, 0)
  | 50 => some (0, 13, 0)
  | 51 => some (0, 7, 0)
  | 52 => some (0, 7, 0)
  | 53 => some (0, 7, 0)
  | 54 => some (0, 5, 0)
  | _ => none
/-- the things of a state -/
def gstate (n : Nat) : List gR := [(6, n, 0), (7, n, 0), (8, n, 0), (9, n, 0), (10, n, 0), (11, n, 0), (12, n, 0)]
def growsOf (k n : Nat) : List gR := [(k, n, 0), (k, n, 1), (k, n, 2), (k, n, 3), (k, n, 4), (k, n, 5), (k, n, 6)]
/-- the things that always stand -/
def gperm : List gR := [(3, 0, 0), (4, 0, 0), (5, 0, 0)] ++ gstate 0 ++ gstate 1 ++ gstate 2 ++ [(13, 0, 0), (14, 0, 0), (15, 0, 0), (16, 0, 0), (17, 0, 0), (18, 0, 0)] ++ growsOf 19 0 ++ [(17, 1, 0), (18, 1, 0)] ++ growsOf 19 1 ++ [(20, 0, 0), (21, 0, 0)] ++ growsOf 22 0 ++ [(23, 0, 0)] ++ growsOf 24 0 ++ [(25, 0, 0), (26, 0, 0), (27, 0, 0), (28, 0, 0), (29, 0, 0), (30, 0, 0), (48, 0, 0), (49, 0, 0), (50, 0, 0), (51, 0, 0), (52, 0, 0)]
def gall : List gR := gperm ++ gstate 3 ++ gstate 4 ++ gstate 5 ++ gstate 6 ++ gstate 7 ++ gstate 8 ++ gstate 9 ++ gstate 10 ++ gstate 11 ++ gstate 12 ++ (List.range 300).map (fun i => (53, 100 + i, 0)) ++ (List.range 20).map (fun i => (54, 400 + i, 0))
def gids (B : gB) : List gR := gall.filter (fun r => Nat.blt r.2.1 3 || B r.2.1)
/-- values -/
def gcat : gV → Nat
  | .inl v => v.category
  | .inr _ => 1
def gcv (ad : gR → Nat) : gV → Value
  | .inl v => v
  | .inr r => .ref (ad r)
def gcp (ad : gR → Nat) (q : Nat × gV) : Nat × Value := (q.1, gcv ad q.2)
/-- writing -/
def gUI (I : gI) (k n i j : Nat) (x : Int32) : gI := fun a b c d => if a = k ∧ b = n ∧ c = i ∧ d = j then x else I a b c d
def gUJ (J : gJ) (k n j : Nat) (x : Int64) : gJ := fun a b d => if a = k ∧ b = n ∧ d = j then x else J a b d
def gUB (B : gB) (n : Nat) : gB := fun a => if a = n then true else B a
/-- local places -/
def gset1 (ls : List (Nat × gV)) (a : Nat) (v : gV) : List (Nat × gV) := (a, v) :: ls.filter (fun q => !(q.1 == a) && !(q.1 + 1 == a && gcat q.2 == 2))
def gset2 (ls : List (Nat × gV)) (a : Nat) (v : gV) : List (Nat × gV) := (a, v) :: ls.filter (fun q => !(q.1 == a) && (!(q.1 == a + 1) && !(q.1 + 1 == a && gcat q.2 == 2)))
def gpick (live : List Nat) (ls : List (Nat × gV)) : List (Nat × gV) := live.filterMap (fun i => (ls.lookup i).map (fun v => (i, v)))
def gldv (ls : List (Nat × gV)) (a : Nat) (k : gV → Prop) : Prop := match ls.lookup a with
  | some v => k v
  | none => False
/-- what stands on top -/
def gvi (v : gV) (k : Int32 → Prop) : Prop := match v with
  | .inl (.int x) => k x
  | _ => False
def gvl (v : gV) (k : Int64 → Prop) : Prop := match v with
  | .inl (.long x) => k x
  | _ => False
def gvd (v : gV) (k : UInt64 → Prop) : Prop := match v with
  | .inl (.double x) => k x
  | _ => False
def gvr (v : gV) (k : gR → Prop) : Prop := match v with
  | .inr r => k r
  | _ => False
def gvn (v : gV) (a : Prop) (k : gR → Prop) : Prop := match v with
  | .inr r => k r
  | .inl .null => a
  | _ => False
def gtop (st : List gV) (k : gV → List gV → Prop) : Prop := match st with
  | v :: r => k v r
  | [] => False
def gpi (st : List gV) (k : Int32 → List gV → Prop) : Prop := gtop st fun v r => gvi v fun x => k x r
def gpl (st : List gV) (k : Int64 → List gV → Prop) : Prop := gtop st fun v r => gvl v fun x => k x r
def gpd (st : List gV) (k : UInt64 → List gV → Prop) : Prop := gtop st fun v r => gvd v fun x => k x r
def gpr (st : List gV) (k : gR → List gV → Prop) : Prop := gtop st fun v r => gvr v fun x => k x r
def gno (st : List gV) (k : Prop) : Prop := match st with
  | [] => k
  | _ => False
/-- the primes that stand in the static row -/
def gprime (j : Nat) : Int32 := ([2, 3, 5, 7, 11, 13, 17, 19, 23, 29, 31] : List Int32).getD j 0
/-- loads from arrays -/
def gial (L : Nat) (xs : Nat → Int32) (I : gI) (q : gR) (i : Int32) (k : Int32 → Prop) : Prop := match q.1 with
  | 0 => vp_in i L ∧ k (xs i.toNatClampNeg)
  | 1 => vp_in i 11 ∧ k (gprime i.toNatClampNeg)
  | kk => match garr kk with
    | some (0, n, _) => vp_in i n ∧ k (I kk q.2.1 q.2.2 i.toNatClampNeg)
    | _ => False
def gbal (I : gI) (q : gR) (i : Int32) (k : Int32 → Prop) : Prop := match garr q.1 with
  | some (2, n, _) => vp_in i n ∧ k (I q.1 q.2.1 q.2.2 i.toNatClampNeg)
  | some (3, n, _) => vp_in i n ∧ k (I q.1 q.2.1 q.2.2 i.toNatClampNeg)
  | _ => False
def glal (J : gJ) (q : gR) (i : Int32) (k : Int64 → Prop) : Prop := match garr q.1 with
  | some (1, n, _) => vp_in i n ∧ k (J q.1 q.2.1 i.toNatClampNeg)
  | _ => False
def gdal (J : gJ) (q : gR) (i : Int32) (k : UInt64 → Prop) : Prop := match garr q.1 with
  | some (4, n, _) => vp_in i n ∧ k (J q.1 q.2.1 i.toNatClampNeg).toUInt64
  | _ => False
def gaal (B : gB) (q : gR) (i : Int32) (k : gV → Prop) : Prop := match garr q.1 with
  | some (5, n, rk) => vp_in i n ∧ k (.inr (rk, q.2.1, i.toNatClampNeg))
  | some (6, n, rk) => vp_in i n ∧ (B (rk + i.toNatClampNeg + 17) = true → k (.inr (6, rk + i.toNatClampNeg, 0))) ∧ (B (rk + i.toNatClampNeg + 17) = false → k (.inl .null))
  | _ => False
/-- stores -/
def gias (I : gI) (q : gR) (i x : Int32) (k : gI → Prop) : Prop := match garr q.1 with
  | some (0, n, _) => vp_in i n ∧ k (gUI I q.1 q.2.1 q.2.2 i.toNatClampNeg x)
  | _ => False
def gbas (I : gI) (q : gR) (i x : Int32) (k : gI → Prop) : Prop := match garr q.1 with
  | some (2, n, _) => vp_in i n ∧ k (gUI I q.1 q.2.1 q.2.2 i.toNatClampNeg (vp_nar .boolean x))
  | some (3, n, _) => vp_in i n ∧ k (gUI I q.1 q.2.1 q.2.2 i.toNatClampNeg x.toInt8.toInt32)
  | _ => False
def glas (J : gJ) (q : gR) (i : Int32) (x : Int64) (k : gJ → Prop) : Prop := match garr q.1 with
  | some (1, n, _) => vp_in i n ∧ k (gUJ J q.1 q.2.1 i.toNatClampNeg x)
  | _ => False
def gdas (J : gJ) (q : gR) (i : Int32) (x : UInt64) (k : gJ → Prop) : Prop := match garr q.1 with
  | some (4, n, _) => vp_in i n ∧ k (gUJ J q.1 q.2.1 i.toNatClampNeg x.toInt64)
  | _ => False
def gaas (B : gB) (q v : gR) (i : Int32) (k : gB → Prop) : Prop := match garr q.1 with
  | some (6, n, rk) => vp_in i n ∧ v = (6, rk + i.toNatClampNeg, 0) ∧ k (gUB B (rk + i.toNatClampNeg + 17))
  | _ => False
def gln (L : Nat) (q : gR) (k : Int32 → Prop) : Prop := match q.1 with
  | 0 => k (Int32.ofNat L)
  | 1 => k 11
  | kk => match garr kk with
    | some (_, n, _) => k (Int32.ofNat n)
    | none => False
/-- fields -/
def gfg (I : gI) (J : gJ) (q : gR) (a b : Nat) (k : gV → Prop) : Prop := match Nat.beq q.1 a, gobj a with
  | true, some (_, fl) => match fl[b]? with
    | some (0, _) => k (.inl (.int (I a q.2.1 0 b)))
    | some (1, _) => k (.inl (.long (J a q.2.1 b)))
    | some (2, _) => k (.inl (.int (I a q.2.1 0 b)))
    | some (101, _) => False
    | some (cd, dn) => k (.inr (cd - 100, q.2.1 + dn, 0))
    | none => False
  | _, _ => False
def gfp (I : gI) (J : gJ) (q : gR) (a b : Nat) (v : gV) (k : gI → gJ → Prop) : Prop := match Nat.beq q.1 a, gobj a with
  | true, some (_, fl) => match fl[b]? with
    | some (0, _) => gvi v fun x => k (gUI I a q.2.1 0 b x) J
    | some (1, _) => gvl v fun x => k I (gUJ J a q.2.1 b x)
    | some (2, _) => gvi v fun x => (x = 0 ∨ x = 1) ∧ k (gUI I a q.2.1 0 b x) J
    | _ => False
  | _, _ => False
/-- copies of whole stretches -/
def gcpI (I : gI) (s d : gR) (sp dp n : Nat) : gI := fun a b c j => if a = d.1 ∧ b = d.2.1 ∧ c = d.2.2 then va_cpy (I s.1 s.2.1 s.2.2) (I d.1 d.2.1 d.2.2) sp dp n j else I a b c j
def gcpJ (J : gJ) (s d : gR) (sp dp n : Nat) : gJ := fun a b j => if a = d.1 ∧ b = d.2.1 then va_cpy (J s.1 s.2.1) (J d.1 d.2.1) sp dp n j else J a b j
def gcpy (I : gI) (J : gJ) (s d : gR) (sp dp n : Int32) (k : gI → gJ → Prop) : Prop := match garr s.1, garr d.1 with
  | some (0, n0, _), some (0, n1, _) => (¬ sp < 0 ∧ ¬ dp < 0 ∧ ¬ n < 0 ∧ sp.toNatClampNeg + n.toNatClampNeg ≤ n0 ∧ dp.toNatClampNeg + n.toNatClampNeg ≤ n1 ∧ s ≠ d) ∧ k (gcpI I s d sp.toNatClampNeg dp.toNatClampNeg n.toNatClampNeg) J
  | some (1, n0, _), some (1, n1, _) => (¬ sp < 0 ∧ ¬ dp < 0 ∧ ¬ n < 0 ∧ sp.toNatClampNeg + n.toNatClampNeg ≤ n0 ∧ dp.toNatClampNeg + n.toNatClampNeg ≤ n1 ∧ s ≠ d) ∧ k I (gcpJ J s d sp.toNatClampNeg dp.toNatClampNeg n.toNatClampNeg)
  | _, _ => False
/-- a new state, all zero -/
def gnwI (I : gI) (m : Nat) : gI := fun a b c j => if b = m ∧ 6 ≤ a ∧ a ≤ 12 then 0 else I a b c j
def gnwJ (J : gJ) (m : Nat) : gJ := fun a b j => if b = m ∧ a = 6 ∧ j = 6 then 1 else if b = m ∧ a = 10 then 0 else J a b j
/-- a new row of numbers, all zero -/
def gnaI (I : gI) (k m : Nat) : gI := fun a b c j => if a = k ∧ b = m then 0 else I a b c j
/-- which of three -/
def gx3 (k : Nat) (a b c : Prop) : Prop := match k with
  | 0 => a
  | 1 => b
  | _ => c
def gto (cd : List gE) (t : Nat) : List gE := cd.dropWhile (fun e => !(Nat.beq e.1 t))
def gsum (st : List gV) : Nat := (st.map gcat).sum
/-- a handler: from, to, where, for which of the three -/
abbrev gH : Type := List (Nat × Nat × Nat × Nat)
def ghf (hs : gH) (pc k : Nat) : Option Nat := match hs with
  | [] => none
  | (a, b, h, j) :: r => match Nat.ble a pc && Nat.blt pc b && Nat.beq j k with
    | true => some h
    | false => ghf r pc k
/-- from a handler's first row, which lays the exception away, on -/
def ghg (cd : List gE) (h : Nat) (go : List gE → List (Nat × gV) → Prop) (ls : List (Nat × gV)) : Prop := match gto cd h with
  | e :: rest => go rest (ls.filter (fun q => !(q.1 == e.2.2.2.1) && !(q.1 + 1 == e.2.2.2.1 && gcat q.2 == 2)))
  | [] => False
def gsw (x : Int32) (lo : Int) (ts : List Nat) (d : Nat) (k : Nat → Prop) : Prop := (∀ i : Nat, ∀ t : Nat, ts[i]? = some t → x.toInt = lo + i → k t) ∧ ((x.toInt < lo ∨ lo + ts.length ≤ x.toInt) → k d)
section GM
variable (C : Nat → List gV → gI → gJ → gB → gQt → gXt → Prop) (cd : List gE) (hs : gH) (mc ms L : Nat) (xs : Nat → Int32) (bo : Bool) (Q : gQt) (X : gXt)
/-- the receiver is of the kind that the call wants -/
def gkd (k : Nat) (args : List gV) : Bool := match k with
  | 0 => true
  | _ => match args with
    | .inr q :: _ => Nat.beq q.1 k
    | _ => false
/-- a call -/
def gcal (e : gE) (rest : List gE) (go : List gE → gM) : gM := fun ls st I J B c w =>
  match Nat.ble (gsum (st.drop (e.2.2.2.2.1 % 16))) 8 && (gkd (e.2.2.2.2.1 / 16) (st.take (e.2.2.2.2.1 % 16)).reverse && Nat.beq (st.take (e.2.2.2.2.1 % 16)).length (e.2.2.2.2.1 % 16)), e.2.2.2.2.2 with
  | true, .inr (tag, m1, m2) =>
    (fun (body : Prop) => match m1 with
      | 0 => body
      | _ => (c + m1 ≤ mc ∧ w + m2 ≤ ms) ∧ body)
    (C e.2.2.2.1 (st.take (e.2.2.2.2.1 % 16)).reverse I J B
      (fun v I' J' B' => match tag with
        | 0 => go rest ls (st.drop (e.2.2.2.2.1 % 16)) I' J' B' (c + m1) (w + m2)
        | 1 => gvi v fun x => go rest ls (.inl (.int x) :: st.drop (e.2.2.2.2.1 % 16)) I' J' B' (c + m1) (w + m2)
        | 2 => gvl v fun x => go rest ls (.inl (.long x) :: st.drop (e.2.2.2.2.1 % 16)) I' J' B' (c + m1) (w + m2)
        | 3 => gvd v fun x => go rest ls (.inl (.double x) :: st.drop (e.2.2.2.2.1 % 16)) I' J' B' (c + m1) (w + m2)
        | _ => gvn v (go rest ls (.inl .null :: st.drop (e.2.2.2.2.1 % 16)) I' J' B' (c + m1) (w + m2)) fun r => go rest ls (.inr r :: st.drop (e.2.2.2.2.1 % 16)) I' J' B' (c + m1) (w + m2))
      (match hs with
        | [] => X
        | _ => fun k I' J' B' => gx3 k
          (match ghf hs e.1 0 with
            | some h => ghg cd h (fun r ls' => go r ls' [] I' J' B' (c + m1) (w + m2)) ls
            | none => X 0 I' J' B')
          (match ghf hs e.1 1 with
            | some h => ghg cd h (fun r ls' => go r ls' [] I' J' B' (c + m1) (w + m2)) ls
            | none => X 1 I' J' B')
          (match ghf hs e.1 2 with
            | some h => ghg cd h (fun r ls' => go r ls' [] I' J' B' (c + m1) (w + m2)) ls
            | none => X 2 I' J' B')))
  | _, _ => False
def gbr (p : Prop) (rest : List gE) (a : Nat) (go : List gE → Prop) : Prop := (p → go (gto cd a)) ∧ (¬ p → go rest)
def gbn (p : Prop) (rest : List gE) (a : Nat) (go : List gE → Prop) : Prop := (¬ p → go (gto cd a)) ∧ (p → go rest)
/-- what a row does -/
def gsem (e : gE) (rest : List gE) (go : List gE → gM) : gM := fun ls st I J B c w =>
  let a := e.2.2.2.1
  let b := e.2.2.2.2.1
  let v := e.2.2.2.2.2
  match e.2.2.1 with
  | .iconst _ => gvi v fun x => go rest ls (.inl (.int x) :: st) I J B c w
  | .bipush _ => gvi v fun x => go rest ls (.inl (.int x) :: st) I J B c w
  | .sipush _ => gvi v fun x => go rest ls (.inl (.int x) :: st) I J B c w
  | .lconst _ => gvl v fun x => go rest ls (.inl (.long x) :: st) I J B c w
  | .dconst _ => go rest ls (.inl (.double FP.dconst0) :: st) I J B c w
  | .ldc _ => match v with
    | .inl (.int x) => go rest ls (.inl (.int x) :: st) I J B c w
    | _ => gvr v fun q => go rest ls (.inr q :: st) I J B c w
  | .ldc_w _ => match v with
    | .inl (.int x) => go rest ls (.inl (.int x) :: st) I J B c w
    | _ => False
  | .ldc2_w _ => gvl v fun x => go rest ls (.inl (.long x) :: st) I J B c w
  | .aconst_null => go rest ls (.inl .null :: st) I J B c w
  | .getstatic _ => go rest ls (.inr (1, a, 0) :: st) I J B c w
  | .iload_n _ => gldv ls a fun y => gvi y fun x => go rest ls (.inl (.int x) :: st) I J B c w
  | .iload _ => gldv ls a fun y => gvi y fun x => go rest ls (.inl (.int x) :: st) I J B c w
  | .lload_n _ => gldv ls a fun y => gvl y fun x => go rest ls (.inl (.long x) :: st) I J B c w
  | .lload _ => gldv ls a fun y => gvl y fun x => go rest ls (.inl (.long x) :: st) I J B c w
  | .dload _ => gldv ls a fun y => gvd y fun x => go rest ls (.inl (.double x) :: st) I J B c w
  | .aload_n _ => gldv ls a fun y => gvn y (go rest ls (.inl .null :: st) I J B c w) fun x => go rest ls (.inr x :: st) I J B c w
  | .aload _ => gldv ls a fun y => gvn y (go rest ls (.inl .null :: st) I J B c w) fun x => go rest ls (.inr x :: st) I J B c w
  | .istore_n _ => gpi st fun x r => go rest (gset1 ls a (.inl (.int x))) r I J B c w
  | .istore _ => gpi st fun x r => go rest (gset1 ls a (.inl (.int x))) r I J B c w
  | .astore_n _ => gtop st fun y r => gvn y (go rest (gset1 ls a (.inl .null)) r I J B c w) fun x => go rest (gset1 ls a (.inr x)) r I J B c w
  | .astore _ => gtop st fun y r => gvn y (go rest (gset1 ls a (.inl .null)) r I J B c w) fun x => go rest (gset1 ls a (.inr x)) r I J B c w
  | .lstore_n _ => gpl st fun x r => go rest (gset2 ls a (.inl (.long x))) r I J B c w
  | .lstore _ => gpl st fun x r => go rest (gset2 ls a (.inl (.long x))) r I J B c w
  | .dstore _ => gpd st fun x r => go rest (gset2 ls a (.inl (.double x))) r I J B c w
  | .iinc _ _ => gldv ls a fun y => gvi y fun x => gvi v fun z => go rest (gset1 ls a (.inl (.int (x + z)))) st I J B c w
  | .iadd => gpi st fun y r => gpi r fun x r => go rest ls (.inl (.int (x + y)) :: r) I J B c w
  | .isub => gpi st fun y r => gpi r fun x r => go rest ls (.inl (.int (x - y)) :: r) I J B c w
  | .imul => gpi st fun y r => gpi r fun x r => go rest ls (.inl (.int (x * y)) :: r) I J B c w
  | .iand => gpi st fun y r => gpi r fun x r => go rest ls (.inl (.int (x &&& y)) :: r) I J B c w
  | .ior => gpi st fun y r => gpi r fun x r => go rest ls (.inl (.int (x ||| y)) :: r) I J B c w
  | .ixor => gpi st fun y r => gpi r fun x r => go rest ls (.inl (.int (x ^^^ y)) :: r) I J B c w
  | .ishl => gpi st fun y r => gpi r fun x r => go rest ls (.inl (.int (x <<< (y &&& 31))) :: r) I J B c w
  | .ishr => gpi st fun y r => gpi r fun x r => go rest ls (.inl (.int (x >>> (y &&& 31))) :: r) I J B c w
  | .idiv => gpi st fun y r => gpi r fun x r => (¬ y = 0) ∧ go rest ls (.inl (.int (x / y)) :: r) I J B c w
  | .irem => gpi st fun y r => gpi r fun x r => (¬ y = 0) ∧ go rest ls (.inl (.int (x - x / y * y)) :: r) I J B c w
  | .iushr => gpi st fun y r => gpi r fun x r => go rest ls (.inl (.int (x.toUInt32 >>> (y.toUInt32 &&& Int32.toUInt32 31)).toInt32) :: r) I J B c w
  | .ineg => gpi st fun x r => go rest ls (.inl (.int (-x)) :: r) I J B c w
  | .ladd => gpl st fun y r => gpl r fun x r => go rest ls (.inl (.long (x + y)) :: r) I J B c w
  | .lsub => gpl st fun y r => gpl r fun x r => go rest ls (.inl (.long (x - y)) :: r) I J B c w
  | .lmul => gpl st fun y r => gpl r fun x r => go rest ls (.inl (.long (x * y)) :: r) I J B c w
  | .ldiv => gpl st fun y r => gpl r fun x r => (¬ y = 0) ∧ go rest ls (.inl (.long (x / y)) :: r) I J B c w
  | .lrem => gpl st fun y r => gpl r fun x r => (¬ y = 0) ∧ go rest ls (.inl (.long (x - x / y * y)) :: r) I J B c w
  | .lneg => gpl st fun x r => go rest ls (.inl (.long (-x)) :: r) I J B c w
  | .lcmp => gpl st fun y r => gpl r fun x r => go rest ls (.inl (.int (lg_cmp x y)) :: r) I J B c w
  | .i2l => gpi st fun x r => go rest ls (.inl (.long x.toInt64) :: r) I J B c w
  | .l2i => gpl st fun x r => go rest ls (.inl (.int x.toInt32) :: r) I J B c w
  | .i2b => gpi st fun x r => go rest ls (.inl (.int x.toInt8.toInt32) :: r) I J B c w
  | .l2d => gpl st fun x r => go rest ls (.inl (.double (FP.l2d x)) :: r) I J B c w
  | .ddiv => gpd st fun y r => gpd r fun x r => vf_n64 (FP.ddiv x y) ∧ go rest ls (.inl (.double (FP.ddiv x y)) :: r) I J B c w
  | .dcmp o => gpd st fun y r => gpd r fun x r => go rest ls (.inl (.int (Op.cmpValue (FP.dcmp x y) o)) :: r) I J B c w
  | .pop => gtop st fun y r => match gcat y with
    | 1 => go rest ls r I J B c w
    | _ => False
  | .dup => gtop st fun y r => match gcat y with
    | 1 => go rest ls (y :: y :: r) I J B c w
    | _ => False
  | .dup2 => gtop st fun y r => match gcat y with
    | 2 => go rest ls (y :: y :: r) I J B c w
    | _ => gtop r fun z r => match gcat z with
      | 1 => go rest ls (y :: z :: y :: z :: r) I J B c w
      | _ => False
  | .ifCond .eq _ => gpi st fun x r => gbr cd (x = 0) rest a fun r' => go r' ls r I J B c w
  | .ifCond .ne _ => gpi st fun x r => gbn cd (x = 0) rest a fun r' => go r' ls r I J B c w
  | .ifCond .lt _ => gpi st fun x r => gbr cd (x < 0) rest a fun r' => go r' ls r I J B c w
  | .ifCond .ge _ => gpi st fun x r => gbr cd (0 ≤ x) rest a fun r' => go r' ls r I J B c w
  | .ifCond .gt _ => gpi st fun x r => gbr cd (0 < x) rest a fun r' => go r' ls r I J B c w
  | .ifCond .le _ => gpi st fun x r => gbr cd (x ≤ 0) rest a fun r' => go r' ls r I J B c w
  | .if_icmp .eq _ => gpi st fun y r => gpi r fun x r => gbr cd (x = y) rest a fun r' => go r' ls r I J B c w
  | .if_icmp .ne _ => gpi st fun y r => gpi r fun x r => gbn cd (x = y) rest a fun r' => go r' ls r I J B c w
  | .if_icmp .lt _ => gpi st fun y r => gpi r fun x r => gbr cd (x < y) rest a fun r' => go r' ls r I J B c w
  | .if_icmp .ge _ => gpi st fun y r => gpi r fun x r => gbr cd (y ≤ x) rest a fun r' => go r' ls r I J B c w
  | .if_icmp .gt _ => gpi st fun y r => gpi r fun x r => gbr cd (y < x) rest a fun r' => go r' ls r I J B c w
  | .if_icmp .le _ => gpi st fun y r => gpi r fun x r => gbr cd (x ≤ y) rest a fun r' => go r' ls r I J B c w
  | .goto _ => go (gto cd a) ls st I J B c w
  | .ifnull _ => gtop st fun y r => gvn y (go (gto cd a) ls r I J B c w) fun _ => go rest ls r I J B c w
  | .ifnonnull _ => gtop st fun y r => gvn y (go rest ls r I J B c w) fun _ => go (gto cd a) ls r I J B c w
  | .tableswitch d lo _ offs => gpi st fun x r => gsw x lo (offs.toList.map (fun o => ((e.1 : Int) + o).toNat)) ((e.1 : Int) + d).toNat fun t => go (gto cd t) ls r I J B c w
  | .iaload => gpi st fun i r => gpr r fun q r => gial L xs I q i fun x => go rest ls (.inl (.int x) :: r) I J B c w
  | .baload => gpi st fun i r => gpr r fun q r => gbal I q i fun x => go rest ls (.inl (.int x) :: r) I J B c w
  | .laload => gpi st fun i r => gpr r fun q r => glal J q i fun x => go rest ls (.inl (.long x) :: r) I J B c w
  | .daload => gpi st fun i r => gpr r fun q r => gdal J q i fun x => go rest ls (.inl (.double x) :: r) I J B c w
  | .aaload => gpi st fun i r => gpr r fun q r => gaal B q i fun x => go rest ls (x :: r) I J B c w
  | .iastore => gpi st fun x r => gpi r fun i r => gpr r fun q r => gias I q i x fun I' => go rest ls r I' J B c w
  | .bastore => gpi st fun x r => gpi r fun i r => gpr r fun q r => gbas I q i x fun I' => go rest ls r I' J B c w
  | .lastore => gpl st fun x r => gpi r fun i r => gpr r fun q r => glas J q i x fun J' => go rest ls r I J' B c w
  | .dastore => gpd st fun x r => gpi r fun i r => gpr r fun q r => gdas J q i x fun J' => go rest ls r I J' B c w
  | .aastore => gpr st fun x r => gpi r fun i r => gpr r fun q r => gaas B q x i fun B' => go rest ls r I J B' c w
  | .arraylength => gpr st fun q r => gln L q fun x => go rest ls (.inl (.int x) :: r) I J B c w
  | .getfield _ => gpr st fun q r => gfg I J q a b fun x => go rest ls (x :: r) I J B c w
  | .putfield _ => gtop st fun x r => gpr r fun q r => gfp I J q a b x fun I' J' => go rest ls r I' J' B c w
  | .ireturn => gpi st fun x r => gno r (match bo with
    | true => (x = 0 ∨ x = 1) ∧ Q (.inl (.int x)) I J B
    | false => Q (.inl (.int x)) I J B)
  | .lreturn => gpl st fun x r => gno r (Q (.inl (.long x)) I J B)
  | .dreturn => gpd st fun x r => gno r (Q (.inl (.double x)) I J B)
  | .areturn => gtop st fun x r => gno r (gvn x (Q x I J B) fun _ => Q x I J B)
  | .return_ => gno st (Q (.inl .null) I J B)
  | .new _ => match a with
    | 1 => gno st ((c + 1 ≤ mc ∧ w + 6 ≤ ms) ∧ X b I J B)
    | _ => Nat.ble (gsum st) 6 = true ∧ ∃ m, (3 ≤ m ∧ m ≤ 12 ∧ B m = false) ∧ (c + 7 ≤ mc ∧ w + 142 ≤ ms) ∧ go (rest.drop 2) ls (.inr (6, m, 0) :: st) (gnwI I m) (gnwJ J m) (gUB B m) (c + 7) (w + 142)
  | .newarray _ => gpi st fun x r => x = Int32.ofNat b ∧ Nat.ble (gsum r) 6 = true ∧ ∃ m, (100 ≤ m ∧ (a, m, 0) ∈ gall ∧ B m = false) ∧ (c + 1 ≤ mc ∧ w + b ≤ ms) ∧ go rest ls (.inr (a, m, 0) :: r) (gnaI I a m) J (gUB B m) (c + 1) (w + b)
  | .invokevirtual _ => gcal C cd hs mc ms X e rest go ls st I J B c w
  | .invokestatic _ => match b with
    | 9 => gpi st fun n r => gpi r fun dp r => gpr r fun d r => gpi r fun sp r => gpr r fun s r => match Nat.ble (gsum r) 8 with
      | true => gcpy I J s d sp dp n fun I' J' => go rest ls r I' J' B c w
      | false => False
    | _ => gcal C cd hs mc ms X e rest go ls st I J B c w
  | _ => False
/-- on to a row, or stop where a cut stands, with the places that live there -/
def gcut (ct : List (Nat × List Nat)) (K : Nat → gM) (cur : List gE) (f : gM) : gM := match cur with
  | [] => fun _ _ _ _ _ _ _ => False
  | e :: _ => match ct.lookup e.1 with
    | some live => fun ls st I J B c w => K e.1 (gpick live ls) st I J B c w
    | none => f
def gstp (ct : List (Nat × List Nat)) (K : Nat → gM) : Nat → List gE → gM
  | 0, _ => fun _ _ _ _ _ _ _ => False
  | _ + 1, [] => fun _ _ _ _ _ _ _ => False
  | n + 1, e :: rest => gsem C cd hs mc ms L xs bo Q X e rest (fun cur => gcut ct K cur (gstp ct K n cur))
end GM
end
section
/-! ===== the rows of code, by program out of the printed decode rows and javap: each method of the class, of the reference, of the law ===== -/
def cd_X0_find : List gE := [(0, 1, .aload_n 1, 1, 0, .inl .null), (1, 3, .getfield 18, 6, 5, .inl .null), (4, 3, .ifCond .eq 21, 25, 0, .inl .null), (7, 1, .aload_n 1, 1, 0, .inl .null), (8, 3, .getfield 24, 6, 1, .inl .null), (11, 1, .iconst 1, 0, 0, .inl (.int 1)), (12, 3, .if_icmp .lt 13, 25, 0, .inl .null), (15, 1, .iload_n 2, 2, 0, .inl .null), (16, 3, .ifCond .lt 9, 25, 0, .inl .null), (19, 1, .iload_n 2, 2, 0, .inl .null), (20, 2, .bipush 7, 0, 0, .inl (.int 7)), (22, 3, .if_icmp .lt 5, 27, 0, .inl .null), (25, 1, .iconst 0, 0, 0, .inl (.int 0)), (26, 1, .ireturn, 0, 0, .inl .null), (27, 1, .aload_n 1, 1, 0, .inl .null), (28, 3, .getfield 27, 6, 6, .inl .null), (31, 1, .lstore_n 3, 3, 0, .inl .null), (32, 1, .lload_n 3, 3, 0, .inl .null), (33, 2, .lstore 5, 5, 0, .inl .null), (35, 1, .aload_n 1, 1, 0, .inl .null), (36, 3, .getfield 31, 6, 7, .inl .null), (39, 1, .iload_n 2, 2, 0, .inl .null), (40, 1, .laload, 0, 0, .inl .null), (41, 2, .lstore 7, 7, 0, .inl .null), (43, 1, .lconst 0, 0, 0, .inl (.long 0)), (44, 2, .lstore 9, 9, 0, .inl .null), (46, 1, .lconst 1, 0, 0, .inl (.long 1)), (47, 2, .lstore 11, 11, 0, .inl .null), (49, 1, .iconst 0, 0, 0, .inl (.int 0)), (50, 2, .istore 13, 13, 0, .inl .null), (52, 2, .iload 13, 13, 0, .inl .null), (54, 2, .bipush 100, 0, 0, .inl (.int 100)), (56, 3, .if_icmp .ge 68, 124, 0, .inl .null), (59, 2, .lload 7, 7, 0, .inl .null), (61, 1, .lconst 0, 0, 0, .inl (.long 0)), (62, 1, .lcmp, 0, 0, .inl .null), (63, 3, .ifCond .eq 61, 124, 0, .inl .null), (66, 2, .lload 7, 7, 0, .inl .null), (68, 1, .lload_n 3, 3, 0, .inl .null), (69, 3, .invokestatic 34, 3, 2, .inr (1, 0, 0)), (72, 3, .ifCond .eq 52, 124, 0, .inl .null), (75, 2, .lload 5, 5, 0, .inl .null), (77, 2, .lload 7, 7, 0, .inl .null), (79, 1, .ldiv, 0, 0, .inl .null), (80, 2, .lstore 14, 14, 0, .inl .null), (82, 2, .lload 5, 5, 0, .inl .null), (84, 2, .lload 14, 14, 0, .inl .null), (86, 2, .lload 7, 7, 0, .inl .null), (88, 1, .lmul, 0, 0, .inl .null), (89, 1, .lsub, 0, 0, .inl .null), (90, 2, .lstore 16, 16, 0, .inl .null), (92, 2, .lload 7, 7, 0, .inl .null), (94, 2, .lstore 5, 5, 0, .inl .null), (96, 2, .lload 16, 16, 0, .inl .null), (98, 2, .lstore 7, 7, 0, .inl .null), (100, 2, .lload 9, 9, 0, .inl .null), (102, 2, .lload 14, 14, 0, .inl .null), (104, 2, .lload 11, 11, 0, .inl .null), (106, 1, .lmul, 0, 0, .inl .null), (107, 1, .lsub, 0, 0, .inl .null), (108, 2, .lstore 18, 18, 0, .inl .null), (110, 2, .lload 11, 11, 0, .inl .null), (112, 2, .lstore 9, 9, 0, .inl .null), (114, 2, .lload 18, 18, 0, .inl .null), (116, 2, .lstore 11, 11, 0, .inl .null), (118, 3, .iinc 13 1, 13, 0, .inl (.int 1)), (121, 3, .goto (-69), 52, 0, .inl .null), (124, 2, .lload 11, 11, 0, .inl .null), (126, 1, .lconst 0, 0, 0, .inl (.long 0)), (127, 1, .lcmp, 0, 0, .inl .null), (128, 3, .ifCond .eq 25, 153, 0, .inl .null), (131, 2, .lload 11, 11, 0, .inl .null), (133, 1, .lload_n 3, 3, 0, .inl .null), (134, 3, .invokestatic 34, 3, 2, .inr (1, 0, 0)), (137, 3, .ifCond .ne 16, 153, 0, .inl .null), (140, 2, .lload 11, 11, 0, .inl .null), (142, 1, .aload_n 1, 1, 0, .inl .null), (143, 3, .getfield 24, 6, 1, .inl .null), (146, 1, .i2l, 0, 0, .inl .null), (147, 1, .lrem, 0, 0, .inl .null), (148, 1, .lconst 0, 0, 0, .inl (.long 0)), (149, 1, .lcmp, 0, 0, .inl .null), (150, 3, .ifCond .ne 5, 155, 0, .inl .null), (153, 1, .iconst 0, 0, 0, .inl (.int 0)), (154, 1, .ireturn, 0, 0, .inl .null), (155, 2, .lload 11, 11, 0, .inl .null), (157, 1, .lconst 0, 0, 0, .inl (.long 0)), (158, 1, .lcmp, 0, 0, .inl .null), (159, 3, .ifCond .ge 14, 173, 0, .inl .null), (162, 2, .lload 7, 7, 0, .inl .null), (164, 2, .lload 11, 11, 0, .inl .null), (166, 3, .invokestatic 38, 4, 2, .inr (2, 0, 0)), (169, 1, .lneg, 0, 0, .inl .null), (170, 3, .goto 10, 180, 0, .inl .null), (173, 2, .lload 7, 7, 0, .inl .null), (175, 2, .lload 11, 11, 0, .inl .null), (177, 3, .invokestatic 38, 4, 2, .inr (2, 0, 0)), (180, 2, .lstore 13, 13, 0, .inl .null), (182, 2, .lload 13, 13, 0, .inl .null), (184, 1, .lconst 0, 0, 0, .inl (.long 0)), (185, 1, .lcmp, 0, 0, .inl .null), (186, 3, .ifCond .ne 5, 191, 0, .inl .null), (189, 1, .iconst 0, 0, 0, .inl (.int 0)), (190, 1, .ireturn, 0, 0, .inl .null), (191, 1, .aload_n 0, 0, 0, .inl .null), (192, 3, .getfield 9, 25, 0, .inl .null), (195, 1, .iload_n 2, 2, 0, .inl .null), (196, 2, .lload 7, 7, 0, .inl .null), (198, 2, .lload 13, 13, 0, .inl .null), (200, 1, .ldiv, 0, 0, .inl .null), (201, 1, .lastore, 0, 0, .inl .null), (202, 1, .aload_n 0, 0, 0, .inl .null), (203, 3, .getfield 15, 25, 1, .inl .null), (206, 1, .iload_n 2, 2, 0, .inl .null), (207, 2, .lload 11, 11, 0, .inl .null), (209, 2, .lload 13, 13, 0, .inl .null), (211, 1, .ldiv, 0, 0, .inl .null), (212, 1, .lastore, 0, 0, .inl .null), (213, 1, .iconst 1, 0, 0, .inl (.int 1)), (214, 1, .ireturn, 0, 0, .inl .null)]
def cd_X0_solve : List gE := [(0, 1, .lconst 1, 0, 0, .inl (.long 1)), (1, 1, .lstore_n 2, 2, 0, .inl .null), (2, 1, .iconst 0, 0, 0, .inl (.int 0)), (3, 2, .istore 4, 4, 0, .inl .null), (5, 2, .iload 4, 4, 0, .inl .null), (7, 1, .aload_n 1, 1, 0, .inl .null), (8, 3, .getfield 42, 6, 0, .inl .null), (11, 3, .if_icmp .ge 49, 60, 0, .inl .null), (14, 1, .aload_n 0, 0, 0, .inl .null), (15, 1, .aload_n 1, 1, 0, .inl .null), (16, 2, .iload 4, 4, 0, .inl .null), (18, 3, .invokevirtual 45, 0, 403, .inr (1, 0, 0)), (21, 3, .ifCond .ne 5, 26, 0, .inl .null), (24, 1, .iconst 0, 0, 0, .inl (.int 0)), (25, 1, .ireturn, 0, 0, .inl .null), (26, 1, .lload_n 2, 2, 0, .inl .null), (27, 1, .aload_n 0, 0, 0, .inl .null), (28, 3, .getfield 15, 25, 1, .inl .null), (31, 2, .iload 4, 4, 0, .inl .null), (33, 1, .laload, 0, 0, .inl .null), (34, 3, .invokestatic 49, 5, 2, .inr (2, 0, 0)), (37, 1, .lstore_n 2, 2, 0, .inl .null), (38, 1, .lload_n 2, 2, 0, .inl .null), (39, 1, .lconst 1, 0, 0, .inl (.long 1)), (40, 1, .lcmp, 0, 0, .inl .null), (41, 3, .ifCond .lt 11, 52, 0, .inl .null), (44, 1, .lload_n 2, 2, 0, .inl .null), (45, 3, .ldc2_w 52, 0, 0, .inl (.long 1000000000)), (48, 1, .lcmp, 0, 0, .inl .null), (49, 3, .ifCond .le 5, 54, 0, .inl .null), (52, 1, .iconst 0, 0, 0, .inl (.int 0)), (53, 1, .ireturn, 0, 0, .inl .null), (54, 3, .iinc 4 1, 4, 0, .inl (.int 1)), (57, 3, .goto (-52), 5, 0, .inl .null), (60, 1, .iconst 0, 0, 0, .inl (.int 0)), (61, 2, .istore 4, 4, 0, .inl .null), (63, 2, .iload 4, 4, 0, .inl .null), (65, 1, .aload_n 1, 1, 0, .inl .null), (66, 3, .getfield 42, 6, 0, .inl .null), (69, 3, .if_icmp .ge 33, 102, 0, .inl .null), (72, 1, .aload_n 0, 0, 0, .inl .null), (73, 1, .aload_n 1, 1, 0, .inl .null), (74, 2, .iload 4, 4, 0, .inl .null), (76, 1, .lload_n 2, 2, 0, .inl .null), (77, 3, .invokevirtual 54, 2, 404, .inr (2, 0, 0)), (80, 1, .lload_n 2, 2, 0, .inl .null), (81, 1, .aload_n 1, 1, 0, .inl .null), (82, 3, .getfield 58, 6, 3, .inl .null), (85, 2, .iload 4, 4, 0, .inl .null), (87, 1, .iaload, 0, 0, .inl .null), (88, 1, .i2l, 0, 0, .inl .null), (89, 1, .lmul, 0, 0, .inl .null), (90, 1, .lcmp, 0, 0, .inl .null), (91, 3, .ifCond .eq 5, 96, 0, .inl .null), (94, 1, .iconst 0, 0, 0, .inl (.int 0)), (95, 1, .ireturn, 0, 0, .inl .null), (96, 3, .iinc 4 1, 4, 0, .inl (.int 1)), (99, 3, .goto (-36), 63, 0, .inl .null), (102, 1, .iconst 1, 0, 0, .inl (.int 1)), (103, 1, .ireturn, 0, 0, .inl .null)]
def cd_X0_rowTimes : List gE := [(0, 1, .lconst 0, 0, 0, .inl (.long 0)), (1, 2, .lstore 5, 5, 0, .inl .null), (3, 1, .iconst 0, 0, 0, .inl (.int 0)), (4, 2, .istore 7, 7, 0, .inl .null), (6, 2, .iload 7, 7, 0, .inl .null), (8, 1, .aload_n 1, 1, 0, .inl .null), (9, 3, .getfield 42, 6, 0, .inl .null), (12, 3, .if_icmp .ge 60, 72, 0, .inl .null), (15, 2, .iload 7, 7, 0, .inl .null), (17, 2, .bipush 7, 0, 0, .inl (.int 7)), (19, 3, .if_icmp .ge 53, 72, 0, .inl .null), (22, 1, .aload_n 0, 0, 0, .inl .null), (23, 3, .getfield 15, 25, 1, .inl .null), (26, 2, .iload 7, 7, 0, .inl .null), (28, 1, .laload, 0, 0, .inl .null), (29, 1, .lconst 0, 0, 0, .inl (.long 0)), (30, 1, .lcmp, 0, 0, .inl .null), (31, 3, .ifCond .eq 35, 66, 0, .inl .null), (34, 2, .lload 5, 5, 0, .inl .null), (36, 1, .aload_n 1, 1, 0, .inl .null), (37, 1, .iload_n 2, 2, 0, .inl .null), (38, 2, .iload 7, 7, 0, .inl .null), (40, 1, .isub, 0, 0, .inl .null), (41, 3, .invokevirtual 62, 46, 98, .inr (1, 0, 0)), (44, 1, .i2l, 0, 0, .inl .null), (45, 1, .lload_n 3, 3, 0, .inl .null), (46, 1, .aload_n 0, 0, 0, .inl .null), (47, 3, .getfield 15, 25, 1, .inl .null), (50, 2, .iload 7, 7, 0, .inl .null), (52, 1, .laload, 0, 0, .inl .null), (53, 1, .ldiv, 0, 0, .inl .null), (54, 1, .lmul, 0, 0, .inl .null), (55, 1, .aload_n 0, 0, 0, .inl .null), (56, 3, .getfield 9, 25, 0, .inl .null), (59, 2, .iload 7, 7, 0, .inl .null), (61, 1, .laload, 0, 0, .inl .null), (62, 1, .lmul, 0, 0, .inl .null), (63, 1, .ladd, 0, 0, .inl .null), (64, 2, .lstore 5, 5, 0, .inl .null), (66, 3, .iinc 7 1, 7, 0, .inl (.int 1)), (69, 3, .goto (-63), 6, 0, .inl .null), (72, 2, .lload 5, 5, 0, .inl .null), (74, 1, .lreturn, 0, 0, .inl .null)]
def cd_X0_isLarge : List gE := [(0, 1, .lload_n 0, 0, 0, .inl .null), (1, 3, .invokestatic 66, 306, 1, .inr (2, 0, 0)), (4, 2, .lstore 4, 4, 0, .inl .null), (6, 2, .lload 4, 4, 0, .inl .null), (8, 3, .ldc2_w 72, 0, 0, .inl (.long 1000000)), (11, 1, .lcmp, 0, 0, .inl .null), (12, 3, .ifCond .ge 17, 29, 0, .inl .null), (15, 3, .ldc2_w 74, 0, 0, .inl (.long 2)), (18, 2, .lload 4, 4, 0, .inl .null), (20, 1, .lmul, 0, 0, .inl .null), (21, 2, .lload 4, 4, 0, .inl .null), (23, 1, .lmul, 0, 0, .inl .null), (24, 1, .lload_n 2, 2, 0, .inl .null), (25, 1, .lcmp, 0, 0, .inl .null), (26, 3, .ifCond .le 7, 33, 0, .inl .null), (29, 1, .iconst 1, 0, 0, .inl (.int 1)), (30, 3, .goto 4, 34, 0, .inl .null), (33, 1, .iconst 0, 0, 0, .inl (.int 0)), (34, 1, .ireturn, 0, 0, .inl .null)]
def cd_X0_greatestDivisor : List gE := [(0, 1, .lload_n 0, 0, 0, .inl .null), (1, 3, .invokestatic 66, 306, 1, .inr (2, 0, 0)), (4, 2, .lstore 4, 4, 0, .inl .null), (6, 1, .lload_n 2, 2, 0, .inl .null), (7, 3, .invokestatic 66, 306, 1, .inr (2, 0, 0)), (10, 2, .lstore 6, 6, 0, .inl .null), (12, 1, .iconst 0, 0, 0, .inl (.int 0)), (13, 2, .istore 8, 8, 0, .inl .null), (15, 2, .iload 8, 8, 0, .inl .null), (17, 2, .bipush 100, 0, 0, .inl (.int 100)), (19, 3, .if_icmp .ge 31, 50, 0, .inl .null), (22, 2, .lload 6, 6, 0, .inl .null), (24, 1, .lconst 0, 0, 0, .inl (.long 0)), (25, 1, .lcmp, 0, 0, .inl .null), (26, 3, .ifCond .eq 24, 50, 0, .inl .null), (29, 2, .lload 4, 4, 0, .inl .null), (31, 2, .lload 6, 6, 0, .inl .null), (33, 1, .lrem, 0, 0, .inl .null), (34, 2, .lstore 9, 9, 0, .inl .null), (36, 2, .lload 6, 6, 0, .inl .null), (38, 2, .lstore 4, 4, 0, .inl .null), (40, 2, .lload 9, 9, 0, .inl .null), (42, 2, .lstore 6, 6, 0, .inl .null), (44, 3, .iinc 8 1, 8, 0, .inl (.int 1)), (47, 3, .goto (-32), 15, 0, .inl .null), (50, 2, .lload 4, 4, 0, .inl .null), (52, 1, .lreturn, 0, 0, .inl .null)]
def cd_X0_commonMultiple : List gE := [(0, 1, .lload_n 0, 0, 0, .inl .null), (1, 1, .lload_n 2, 2, 0, .inl .null), (2, 3, .invokestatic 38, 4, 2, .inr (2, 0, 0)), (5, 2, .lstore 4, 4, 0, .inl .null), (7, 2, .lload 4, 4, 0, .inl .null), (9, 1, .lconst 0, 0, 0, .inl (.long 0)), (10, 1, .lcmp, 0, 0, .inl .null), (11, 3, .ifCond .ne 7, 18, 0, .inl .null), (14, 1, .lconst 0, 0, 0, .inl (.long 0)), (15, 3, .goto 9, 24, 0, .inl .null), (18, 1, .lload_n 0, 0, 0, .inl .null), (19, 2, .lload 4, 4, 0, .inl .null), (21, 1, .ldiv, 0, 0, .inl .null), (22, 1, .lload_n 2, 2, 0, .inl .null), (23, 1, .lmul, 0, 0, .inl .null), (24, 1, .lreturn, 0, 0, .inl .null)]
def cd_X1_take : List gE := [(0, 1, .aload_n 0, 0, 0, .inl .null), (1, 1, .iconst 0, 0, 0, .inl (.int 0)), (2, 1, .iload_n 2, 2, 0, .inl .null), (3, 2, .bipush 7, 0, 0, .inl (.int 7)), (5, 3, .invokestatic 16, 308, 2, .inr (1, 0, 0)), (8, 3, .invokestatic 22, 307, 2, .inr (1, 0, 0)), (11, 3, .putfield 25, 17, 1, .inl .null), (14, 1, .aload_n 0, 0, 0, .inl .null), (15, 1, .aload_n 0, 0, 0, .inl .null), (16, 3, .getfield 25, 17, 1, .inl .null), (19, 1, .aload_n 0, 0, 0, .inl .null), (20, 3, .getfield 25, 17, 1, .inl .null), (23, 2, .iload 4, 4, 0, .inl .null), (25, 1, .iadd, 0, 0, .inl .null), (26, 2, .bipush 14, 0, 0, .inl (.int 14)), (28, 3, .invokestatic 16, 308, 2, .inr (1, 0, 0)), (31, 3, .invokestatic 22, 307, 2, .inr (1, 0, 0)), (34, 3, .putfield 29, 17, 2, .inl .null), (37, 1, .aload_n 0, 0, 0, .inl .null), (38, 1, .iload_n 3, 3, 0, .inl .null), (39, 3, .putfield 32, 17, 3, .inl .null), (42, 1, .iconst 0, 0, 0, .inl (.int 0)), (43, 2, .istore 5, 5, 0, .inl .null), (45, 2, .iload 5, 5, 0, .inl .null), (47, 1, .aload_n 0, 0, 0, .inl .null), (48, 3, .getfield 25, 17, 1, .inl .null), (51, 3, .if_icmp .ge 63, 114, 0, .inl .null), (54, 1, .iconst 0, 0, 0, .inl (.int 0)), (55, 2, .istore 6, 6, 0, .inl .null), (57, 2, .iload 6, 6, 0, .inl .null), (59, 1, .aload_n 0, 0, 0, .inl .null), (60, 3, .getfield 29, 17, 2, .inl .null), (63, 3, .if_icmp .ge 45, 108, 0, .inl .null), (66, 1, .aload_n 0, 0, 0, .inl .null), (67, 3, .getfield 11, 17, 0, .inl .null), (70, 2, .iload 5, 5, 0, .inl .null), (72, 1, .aaload, 0, 0, .inl .null), (73, 2, .iload 6, 6, 0, .inl .null), (75, 2, .iload 6, 6, 0, .inl .null), (77, 1, .aload_n 0, 0, 0, .inl .null), (78, 3, .getfield 25, 17, 1, .inl .null), (81, 3, .if_icmp .ge 19, 100, 0, .inl .null), (84, 1, .aload_n 1, 1, 0, .inl .null), (85, 2, .iload 5, 5, 0, .inl .null), (87, 2, .iload 6, 6, 0, .inl .null), (89, 1, .isub, 0, 0, .inl .null), (90, 3, .invokevirtual 35, 46, 98, .inr (1, 0, 0)), (93, 1, .iload_n 3, 3, 0, .inl .null), (94, 3, .invokestatic 41, 121, 2, .inr (1, 0, 0)), (97, 3, .goto 4, 101, 0, .inl .null), (100, 1, .iconst 0, 0, 0, .inl (.int 0)), (101, 1, .iastore, 0, 0, .inl .null), (102, 3, .iinc 6 1, 6, 0, .inl (.int 1)), (105, 3, .goto (-48), 57, 0, .inl .null), (108, 3, .iinc 5 1, 5, 0, .inl (.int 1)), (111, 3, .goto (-66), 45, 0, .inl .null), (114, 1, .return_, 0, 0, .inl .null)]
def cd_X1_height : List gE := [(0, 1, .aload_n 0, 0, 0, .inl .null), (1, 3, .getfield 25, 17, 1, .inl .null), (4, 1, .ireturn, 0, 0, .inl .null)]
def cd_X1_at : List gE := [(0, 1, .iload_n 1, 1, 0, .inl .null), (1, 3, .ifCond .lt 34, 35, 0, .inl .null), (4, 1, .iload_n 1, 1, 0, .inl .null), (5, 1, .aload_n 0, 0, 0, .inl .null), (6, 3, .getfield 25, 17, 1, .inl .null), (9, 3, .if_icmp .ge 26, 35, 0, .inl .null), (12, 1, .iload_n 2, 2, 0, .inl .null), (13, 3, .ifCond .lt 22, 35, 0, .inl .null), (16, 1, .iload_n 2, 2, 0, .inl .null), (17, 1, .aload_n 0, 0, 0, .inl .null), (18, 3, .getfield 29, 17, 2, .inl .null), (21, 3, .if_icmp .ge 14, 35, 0, .inl .null), (24, 1, .aload_n 0, 0, 0, .inl .null), (25, 3, .getfield 11, 17, 0, .inl .null), (28, 1, .iload_n 1, 1, 0, .inl .null), (29, 1, .aaload, 0, 0, .inl .null), (30, 1, .iload_n 2, 2, 0, .inl .null), (31, 1, .iaload, 0, 0, .inl .null), (32, 3, .goto 4, 36, 0, .inl .null), (35, 1, .iconst 0, 0, 0, .inl (.int 0)), (36, 1, .ireturn, 0, 0, .inl .null)]
def cd_X1_put : List gE := [(0, 1, .iload_n 1, 1, 0, .inl .null), (1, 3, .ifCond .lt 39, 40, 0, .inl .null), (4, 1, .iload_n 1, 1, 0, .inl .null), (5, 1, .aload_n 0, 0, 0, .inl .null), (6, 3, .getfield 25, 17, 1, .inl .null), (9, 3, .if_icmp .ge 31, 40, 0, .inl .null), (12, 1, .iload_n 2, 2, 0, .inl .null), (13, 3, .ifCond .lt 27, 40, 0, .inl .null), (16, 1, .iload_n 2, 2, 0, .inl .null), (17, 1, .aload_n 0, 0, 0, .inl .null), (18, 3, .getfield 29, 17, 2, .inl .null), (21, 3, .if_icmp .ge 19, 40, 0, .inl .null), (24, 1, .aload_n 0, 0, 0, .inl .null), (25, 3, .getfield 11, 17, 0, .inl .null), (28, 1, .iload_n 1, 1, 0, .inl .null), (29, 1, .aaload, 0, 0, .inl .null), (30, 1, .iload_n 2, 2, 0, .inl .null), (31, 1, .iload_n 3, 3, 0, .inl .null), (32, 1, .aload_n 0, 0, 0, .inl .null), (33, 3, .getfield 32, 17, 3, .inl .null), (36, 3, .invokestatic 41, 121, 2, .inr (1, 0, 0)), (39, 1, .iastore, 0, 0, .inl .null), (40, 1, .return_, 0, 0, .inl .null)]
def cd_X1_determinant : List gE := [(0, 1, .aload_n 0, 0, 0, .inl .null), (1, 3, .getfield 44, 17, 4, .inl .null), (4, 1, .ireturn, 0, 0, .inl .null)]
def cd_X1_eliminate : List gE := [(0, 1, .iconst 0, 0, 0, .inl (.int 0)), (1, 1, .iload_n 1, 1, 0, .inl .null), (2, 1, .aload_n 0, 0, 0, .inl .null), (3, 3, .getfield 25, 17, 1, .inl .null), (6, 3, .invokestatic 16, 308, 2, .inr (1, 0, 0)), (9, 3, .invokestatic 22, 307, 2, .inr (1, 0, 0)), (12, 1, .istore_n 2, 2, 0, .inl .null), (13, 1, .iconst 0, 0, 0, .inl (.int 0)), (14, 1, .istore_n 3, 3, 0, .inl .null), (15, 1, .aload_n 0, 0, 0, .inl .null), (16, 1, .iconst 1, 0, 0, .inl (.int 1)), (17, 1, .aload_n 0, 0, 0, .inl .null), (18, 3, .getfield 32, 17, 3, .inl .null), (21, 3, .invokestatic 41, 121, 2, .inr (1, 0, 0)), (24, 3, .putfield 44, 17, 4, .inl .null), (27, 1, .aload_n 0, 0, 0, .inl .null), (28, 1, .iload_n 2, 2, 0, .inl .null), (29, 3, .putfield 47, 17, 5, .inl .null), (32, 1, .iconst 0, 0, 0, .inl (.int 0)), (33, 2, .istore 4, 4, 0, .inl .null), (35, 2, .iload 4, 4, 0, .inl .null), (37, 1, .iload_n 2, 2, 0, .inl .null), (38, 3, .if_icmp .ge 81, 119, 0, .inl .null), (41, 1, .aload_n 0, 0, 0, .inl .null), (42, 1, .iload_n 3, 3, 0, .inl .null), (43, 1, .iload_n 2, 2, 0, .inl .null), (44, 2, .iload 4, 4, 0, .inl .null), (46, 3, .invokevirtual 50, 12, 276, .inr (1, 0, 0)), (49, 2, .istore 5, 5, 0, .inl .null), (51, 2, .iload 5, 5, 0, .inl .null), (53, 1, .iconst (-1), 0, 0, .inl (.int (-1))), (54, 3, .if_icmp .ne 24, 78, 0, .inl .null), (57, 1, .aload_n 0, 0, 0, .inl .null), (58, 1, .aload_n 0, 0, 0, .inl .null), (59, 3, .getfield 47, 17, 5, .inl .null), (62, 2, .iload 4, 4, 0, .inl .null), (64, 3, .invokestatic 16, 308, 2, .inr (1, 0, 0)), (67, 3, .putfield 47, 17, 5, .inl .null), (70, 1, .aload_n 0, 0, 0, .inl .null), (71, 1, .iconst 0, 0, 0, .inl (.int 0)), (72, 3, .putfield 44, 17, 4, .inl .null), (75, 3, .goto 38, 113, 0, .inl .null), (78, 1, .aload_n 0, 0, 0, .inl .null), (79, 1, .aload_n 0, 0, 0, .inl .null), (80, 3, .getfield 44, 17, 4, .inl .null), (83, 1, .aload_n 0, 0, 0, .inl .null), (84, 2, .iload 5, 5, 0, .inl .null), (86, 1, .iload_n 3, 3, 0, .inl .null), (87, 2, .iload 4, 4, 0, .inl .null), (89, 3, .invokevirtual 54, 13, 276, .inr (1, 0, 0)), (92, 1, .imul, 0, 0, .inl .null), (93, 1, .aload_n 0, 0, 0, .inl .null), (94, 3, .getfield 32, 17, 3, .inl .null), (97, 3, .invokestatic 41, 121, 2, .inr (1, 0, 0)), (100, 3, .putfield 44, 17, 4, .inl .null), (103, 1, .aload_n 0, 0, 0, .inl .null), (104, 1, .iload_n 3, 3, 0, .inl .null), (105, 2, .iload 4, 4, 0, .inl .null), (107, 3, .invokevirtual 57, 14, 275, .inr (0, 0, 0)), (110, 3, .iinc 3 1, 3, 0, .inl (.int 1)), (113, 3, .iinc 4 1, 4, 0, .inl (.int 1)), (116, 3, .goto (-81), 35, 0, .inl .null), (119, 1, .iload_n 3, 3, 0, .inl .null), (120, 1, .ireturn, 0, 0, .inl .null)]
def cd_X1_pivotRow : List gE := [(0, 1, .iload_n 1, 1, 0, .inl .null), (1, 2, .istore 4, 4, 0, .inl .null), (3, 2, .iload 4, 4, 0, .inl .null), (5, 1, .iload_n 2, 2, 0, .inl .null), (6, 3, .if_icmp .ge 24, 30, 0, .inl .null), (9, 1, .aload_n 0, 0, 0, .inl .null), (10, 3, .getfield 11, 17, 0, .inl .null), (13, 2, .iload 4, 4, 0, .inl .null), (15, 1, .aaload, 0, 0, .inl .null), (16, 1, .iload_n 3, 3, 0, .inl .null), (17, 1, .iaload, 0, 0, .inl .null), (18, 3, .ifCond .eq 6, 24, 0, .inl .null), (21, 2, .iload 4, 4, 0, .inl .null), (23, 1, .ireturn, 0, 0, .inl .null), (24, 3, .iinc 4 1, 4, 0, .inl (.int 1)), (27, 3, .goto (-24), 3, 0, .inl .null), (30, 1, .iconst (-1), 0, 0, .inl (.int (-1))), (31, 1, .ireturn, 0, 0, .inl .null)]
def cd_X1_leadRow : List gE := [(0, 1, .aload_n 0, 0, 0, .inl .null), (1, 3, .getfield 11, 17, 0, .inl .null), (4, 1, .iload_n 1, 1, 0, .inl .null), (5, 1, .aaload, 0, 0, .inl .null), (6, 1, .iload_n 3, 3, 0, .inl .null), (7, 1, .iaload, 0, 0, .inl .null), (8, 2, .istore 4, 4, 0, .inl .null), (10, 1, .aload_n 0, 0, 0, .inl .null), (11, 2, .iload 4, 4, 0, .inl .null), (13, 3, .invokevirtual 61, 15, 274, .inr (1, 0, 0)), (16, 2, .istore 5, 5, 0, .inl .null), (18, 1, .iconst 0, 0, 0, .inl (.int 0)), (19, 2, .istore 6, 6, 0, .inl .null), (21, 2, .iload 6, 6, 0, .inl .null), (23, 1, .aload_n 0, 0, 0, .inl .null), (24, 3, .getfield 29, 17, 2, .inl .null), (27, 3, .if_icmp .ge 64, 91, 0, .inl .null), (30, 1, .aload_n 0, 0, 0, .inl .null), (31, 3, .getfield 11, 17, 0, .inl .null), (34, 1, .iload_n 2, 2, 0, .inl .null), (35, 1, .aaload, 0, 0, .inl .null), (36, 2, .iload 6, 6, 0, .inl .null), (38, 1, .iaload, 0, 0, .inl .null), (39, 2, .istore 7, 7, 0, .inl .null), (41, 1, .aload_n 0, 0, 0, .inl .null), (42, 3, .getfield 11, 17, 0, .inl .null), (45, 1, .iload_n 2, 2, 0, .inl .null), (46, 1, .aaload, 0, 0, .inl .null), (47, 2, .iload 6, 6, 0, .inl .null), (49, 2, .iload 5, 5, 0, .inl .null), (51, 1, .aload_n 0, 0, 0, .inl .null), (52, 3, .getfield 11, 17, 0, .inl .null), (55, 1, .iload_n 1, 1, 0, .inl .null), (56, 1, .aaload, 0, 0, .inl .null), (57, 2, .iload 6, 6, 0, .inl .null), (59, 1, .iaload, 0, 0, .inl .null), (60, 1, .imul, 0, 0, .inl .null), (61, 1, .aload_n 0, 0, 0, .inl .null), (62, 3, .getfield 32, 17, 3, .inl .null), (65, 3, .invokestatic 41, 121, 2, .inr (1, 0, 0)), (68, 1, .iastore, 0, 0, .inl .null), (69, 1, .iload_n 1, 1, 0, .inl .null), (70, 1, .iload_n 2, 2, 0, .inl .null), (71, 3, .if_icmp .eq 14, 85, 0, .inl .null), (74, 1, .aload_n 0, 0, 0, .inl .null), (75, 3, .getfield 11, 17, 0, .inl .null), (78, 1, .iload_n 1, 1, 0, .inl .null), (79, 1, .aaload, 0, 0, .inl .null), (80, 2, .iload 6, 6, 0, .inl .null), (82, 2, .iload 7, 7, 0, .inl .null), (84, 1, .iastore, 0, 0, .inl .null), (85, 3, .iinc 6 1, 6, 0, .inl (.int 1)), (88, 3, .goto (-67), 21, 0, .inl .null), (91, 1, .iload_n 1, 1, 0, .inl .null), (92, 1, .iload_n 2, 2, 0, .inl .null), (93, 3, .if_icmp .ne 8, 101, 0, .inl .null), (96, 2, .iload 4, 4, 0, .inl .null), (98, 3, .goto 6, 104, 0, .inl .null), (101, 2, .iload 4, 4, 0, .inl .null), (103, 1, .ineg, 0, 0, .inl .null), (104, 1, .ireturn, 0, 0, .inl .null)]
def cd_X1_clearColumn : List gE := [(0, 1, .iconst 0, 0, 0, .inl (.int 0)), (1, 1, .istore_n 3, 3, 0, .inl .null), (2, 1, .iload_n 3, 3, 0, .inl .null), (3, 1, .aload_n 0, 0, 0, .inl .null), (4, 3, .getfield 25, 17, 1, .inl .null), (7, 3, .if_icmp .ge 85, 92, 0, .inl .null), (10, 1, .aload_n 0, 0, 0, .inl .null), (11, 3, .getfield 11, 17, 0, .inl .null), (14, 1, .iload_n 3, 3, 0, .inl .null), (15, 1, .aaload, 0, 0, .inl .null), (16, 1, .iload_n 2, 2, 0, .inl .null), (17, 1, .iaload, 0, 0, .inl .null), (18, 2, .istore 4, 4, 0, .inl .null), (20, 1, .iconst 0, 0, 0, .inl (.int 0)), (21, 2, .istore 5, 5, 0, .inl .null), (23, 2, .iload 5, 5, 0, .inl .null), (25, 1, .aload_n 0, 0, 0, .inl .null), (26, 3, .getfield 29, 17, 2, .inl .null), (29, 3, .if_icmp .ge 57, 86, 0, .inl .null), (32, 1, .iload_n 3, 3, 0, .inl .null), (33, 1, .iload_n 1, 1, 0, .inl .null), (34, 3, .if_icmp .eq 52, 86, 0, .inl .null), (37, 2, .iload 4, 4, 0, .inl .null), (39, 3, .ifCond .eq 47, 86, 0, .inl .null), (42, 1, .aload_n 0, 0, 0, .inl .null), (43, 3, .getfield 11, 17, 0, .inl .null), (46, 1, .iload_n 3, 3, 0, .inl .null), (47, 1, .aaload, 0, 0, .inl .null), (48, 2, .iload 5, 5, 0, .inl .null), (50, 1, .aload_n 0, 0, 0, .inl .null), (51, 3, .getfield 11, 17, 0, .inl .null), (54, 1, .iload_n 3, 3, 0, .inl .null), (55, 1, .aaload, 0, 0, .inl .null), (56, 2, .iload 5, 5, 0, .inl .null), (58, 1, .iaload, 0, 0, .inl .null), (59, 2, .iload 4, 4, 0, .inl .null), (61, 1, .aload_n 0, 0, 0, .inl .null), (62, 3, .getfield 11, 17, 0, .inl .null), (65, 1, .iload_n 1, 1, 0, .inl .null), (66, 1, .aaload, 0, 0, .inl .null), (67, 2, .iload 5, 5, 0, .inl .null), (69, 1, .iaload, 0, 0, .inl .null), (70, 1, .imul, 0, 0, .inl .null), (71, 1, .isub, 0, 0, .inl .null), (72, 1, .aload_n 0, 0, 0, .inl .null), (73, 3, .getfield 32, 17, 3, .inl .null), (76, 3, .invokestatic 41, 121, 2, .inr (1, 0, 0)), (79, 1, .iastore, 0, 0, .inl .null), (80, 3, .iinc 5 1, 5, 0, .inl (.int 1)), (83, 3, .goto (-60), 23, 0, .inl .null), (86, 3, .iinc 3 1, 3, 0, .inl (.int 1)), (89, 3, .goto (-87), 2, 0, .inl .null), (92, 1, .return_, 0, 0, .inl .null)]
def cd_X1_inverseOf : List gE := [(0, 1, .iconst 1, 0, 0, .inl (.int 1)), (1, 1, .istore_n 2, 2, 0, .inl .null), (2, 1, .iload_n 2, 2, 0, .inl .null), (3, 1, .aload_n 0, 0, 0, .inl .null), (4, 3, .getfield 32, 17, 3, .inl .null), (7, 3, .if_icmp .ge 23, 30, 0, .inl .null), (10, 1, .iload_n 2, 2, 0, .inl .null), (11, 1, .iload_n 1, 1, 0, .inl .null), (12, 1, .imul, 0, 0, .inl .null), (13, 1, .aload_n 0, 0, 0, .inl .null), (14, 3, .getfield 32, 17, 3, .inl .null), (17, 1, .irem, 0, 0, .inl .null), (18, 1, .iconst 1, 0, 0, .inl (.int 1)), (19, 3, .if_icmp .ne 5, 24, 0, .inl .null), (22, 1, .iload_n 2, 2, 0, .inl .null), (23, 1, .ireturn, 0, 0, .inl .null), (24, 3, .iinc 2 1, 2, 0, .inl (.int 1)), (27, 3, .goto (-25), 2, 0, .inl .null), (30, 1, .iconst 0, 0, 0, .inl (.int 0)), (31, 1, .ireturn, 0, 0, .inl .null)]
def cd_X1_ofKernel : List gE := [(0, 1, .iload_n 1, 1, 0, .inl .null), (1, 1, .aload_n 0, 0, 0, .inl .null), (2, 3, .getfield 47, 17, 5, .inl .null), (5, 3, .if_icmp .ne 5, 10, 0, .inl .null), (8, 1, .iconst 1, 0, 0, .inl (.int 1)), (9, 1, .ireturn, 0, 0, .inl .null), (10, 1, .iload_n 1, 1, 0, .inl .null), (11, 1, .aload_n 0, 0, 0, .inl .null), (12, 3, .getfield 47, 17, 5, .inl .null), (15, 3, .if_icmp .ge 23, 38, 0, .inl .null), (18, 1, .aload_n 0, 0, 0, .inl .null), (19, 1, .iload_n 1, 1, 0, .inl .null), (20, 1, .aload_n 0, 0, 0, .inl .null), (21, 3, .getfield 47, 17, 5, .inl .null), (24, 3, .invokevirtual 64, 8, 275, .inr (1, 0, 0)), (27, 1, .ineg, 0, 0, .inl .null), (28, 1, .aload_n 0, 0, 0, .inl .null), (29, 3, .getfield 32, 17, 3, .inl .null), (32, 3, .invokestatic 41, 121, 2, .inr (1, 0, 0)), (35, 3, .goto 4, 39, 0, .inl .null), (38, 1, .iconst 0, 0, 0, .inl (.int 0)), (39, 1, .ireturn, 0, 0, .inl .null)]
def cd_X1_displace : List gE := [(0, 1, .aload_n 0, 0, 0, .inl .null), (1, 3, .getfield 25, 17, 1, .inl .null), (4, 1, .iconst 1, 0, 0, .inl (.int 1)), (5, 1, .isub, 0, 0, .inl .null), (6, 1, .istore_n 2, 2, 0, .inl .null), (7, 1, .iload_n 2, 2, 0, .inl .null), (8, 1, .iload_n 1, 1, 0, .inl .null), (9, 3, .if_icmp .le 50, 59, 0, .inl .null), (12, 1, .aload_n 0, 0, 0, .inl .null), (13, 3, .getfield 25, 17, 1, .inl .null), (16, 1, .iconst 1, 0, 0, .inl (.int 1)), (17, 1, .isub, 0, 0, .inl .null), (18, 1, .istore_n 3, 3, 0, .inl .null), (19, 1, .iload_n 3, 3, 0, .inl .null), (20, 1, .iload_n 1, 1, 0, .inl .null), (21, 3, .if_icmp .le 32, 53, 0, .inl .null), (24, 1, .aload_n 0, 0, 0, .inl .null), (25, 1, .iload_n 2, 2, 0, .inl .null), (26, 1, .iload_n 3, 3, 0, .inl .null), (27, 1, .aload_n 0, 0, 0, .inl .null), (28, 1, .iload_n 2, 2, 0, .inl .null), (29, 1, .iload_n 3, 3, 0, .inl .null), (30, 3, .invokevirtual 64, 8, 275, .inr (1, 0, 0)), (33, 1, .aload_n 0, 0, 0, .inl .null), (34, 1, .iload_n 2, 2, 0, .inl .null), (35, 1, .iconst 1, 0, 0, .inl (.int 1)), (36, 1, .isub, 0, 0, .inl .null), (37, 1, .iload_n 3, 3, 0, .inl .null), (38, 1, .iconst 1, 0, 0, .inl (.int 1)), (39, 1, .isub, 0, 0, .inl .null), (40, 3, .invokevirtual 64, 8, 275, .inr (1, 0, 0)), (43, 1, .isub, 0, 0, .inl .null), (44, 3, .invokevirtual 67, 9, 276, .inr (0, 0, 0)), (47, 3, .iinc 3 (-1), 3, 0, .inl (.int (-1))), (50, 3, .goto (-31), 19, 0, .inl .null), (53, 3, .iinc 2 (-1), 2, 0, .inl (.int (-1))), (56, 3, .goto (-49), 7, 0, .inl .null), (59, 1, .return_, 0, 0, .inl .null)]
def cd_X2_remember : List gE := [(0, 1, .aload_n 0, 0, 0, .inl .null), (1, 3, .getfield 17, 13, 1, .inl .null), (4, 3, .ifCond .lt 12, 16, 0, .inl .null), (7, 1, .aload_n 0, 0, 0, .inl .null), (8, 3, .getfield 17, 13, 1, .inl .null), (11, 2, .bipush 8, 0, 0, .inl (.int 8)), (13, 3, .if_icmp .lt 8, 21, 0, .inl .null), (16, 1, .aload_n 0, 0, 0, .inl .null), (17, 1, .iconst 0, 0, 0, .inl (.int 0)), (18, 3, .putfield 17, 13, 1, .inl .null), (21, 1, .aload_n 0, 0, 0, .inl .null), (22, 3, .getfield 11, 13, 0, .inl .null), (25, 1, .aload_n 0, 0, 0, .inl .null), (26, 3, .getfield 17, 13, 1, .inl .null), (29, 1, .aaload, 0, 0, .inl .null), (30, 3, .ifnonnull 19, 49, 0, .inl .null), (33, 1, .aload_n 0, 0, 0, .inl .null), (34, 3, .getfield 11, 13, 0, .inl .null), (37, 1, .aload_n 0, 0, 0, .inl .null), (38, 3, .getfield 17, 13, 1, .inl .null), (41, 3, .new 9, 2, 0, .inl .null), (44, 1, .dup, 0, 0, .inl .null), (45, 3, .invokespecial 21, 0, 0, .inl .null), (48, 1, .aastore, 0, 0, .inl .null), (49, 1, .aload_n 0, 0, 0, .inl .null), (50, 3, .getfield 11, 13, 0, .inl .null), (53, 1, .aload_n 0, 0, 0, .inl .null), (54, 3, .getfield 17, 13, 1, .inl .null), (57, 1, .aaload, 0, 0, .inl .null), (58, 1, .aload_n 1, 1, 0, .inl .null), (59, 3, .invokevirtual 22, 45, 98, .inr (0, 0, 0)), (62, 1, .aload_n 0, 0, 0, .inl .null), (63, 1, .aload_n 0, 0, 0, .inl .null), (64, 3, .getfield 17, 13, 1, .inl .null), (67, 1, .iconst 1, 0, 0, .inl (.int 1)), (68, 1, .iadd, 0, 0, .inl .null), (69, 2, .bipush 8, 0, 0, .inl (.int 8)), (71, 1, .irem, 0, 0, .inl .null), (72, 3, .putfield 17, 13, 1, .inl .null), (75, 1, .aload_n 0, 0, 0, .inl .null), (76, 1, .aload_n 0, 0, 0, .inl .null), (77, 3, .getfield 26, 13, 2, .inl .null), (80, 1, .iconst 1, 0, 0, .inl (.int 1)), (81, 1, .iadd, 0, 0, .inl .null), (82, 2, .bipush 8, 0, 0, .inl (.int 8)), (84, 3, .invokestatic 29, 308, 2, .inr (1, 0, 0)), (87, 3, .putfield 26, 13, 2, .inl .null), (90, 1, .return_, 0, 0, .inl .null)]
def cd_X2_takeLatest : List gE := [(0, 1, .aload_n 0, 0, 0, .inl .null), (1, 3, .getfield 26, 13, 2, .inl .null), (4, 3, .ifCond .ne 5, 9, 0, .inl .null), (7, 1, .aconst_null, 0, 0, .inl .null), (8, 1, .areturn, 0, 0, .inl .null), (9, 1, .aload_n 0, 0, 0, .inl .null), (10, 1, .aload_n 0, 0, 0, .inl .null), (11, 3, .getfield 17, 13, 1, .inl .null), (14, 2, .bipush 8, 0, 0, .inl (.int 8)), (16, 1, .iadd, 0, 0, .inl .null), (17, 1, .iconst 1, 0, 0, .inl (.int 1)), (18, 1, .isub, 0, 0, .inl .null), (19, 2, .bipush 8, 0, 0, .inl (.int 8)), (21, 1, .irem, 0, 0, .inl .null), (22, 3, .putfield 17, 13, 1, .inl .null), (25, 1, .aload_n 0, 0, 0, .inl .null), (26, 1, .dup, 0, 0, .inl .null), (27, 3, .getfield 26, 13, 2, .inl .null), (30, 1, .iconst 1, 0, 0, .inl (.int 1)), (31, 1, .isub, 0, 0, .inl .null), (32, 3, .putfield 26, 13, 2, .inl .null), (35, 1, .aload_n 0, 0, 0, .inl .null), (36, 3, .getfield 11, 13, 0, .inl .null), (39, 1, .aload_n 0, 0, 0, .inl .null), (40, 3, .getfield 17, 13, 1, .inl .null), (43, 1, .aaload, 0, 0, .inl .null), (44, 1, .areturn, 0, 0, .inl .null)]
def cd_X2_forget : List gE := [(0, 1, .aload_n 0, 0, 0, .inl .null), (1, 1, .iconst 0, 0, 0, .inl (.int 0)), (2, 3, .putfield 26, 13, 2, .inl .null), (5, 1, .return_, 0, 0, .inl .null)]
def cd_X3_putWord : List gE := [(0, 2, .bipush 24, 0, 0, .inl (.int 24)), (2, 1, .istore_n 2, 2, 0, .inl .null), (3, 1, .iload_n 2, 2, 0, .inl .null), (4, 3, .ifCond .lt 51, 55, 0, .inl .null), (7, 1, .aload_n 0, 0, 0, .inl .null), (8, 3, .getfield 22, 4, 1, .inl .null), (11, 3, .ifCond .lt 38, 49, 0, .inl .null), (14, 1, .aload_n 0, 0, 0, .inl .null), (15, 3, .getfield 22, 4, 1, .inl .null), (18, 1, .aload_n 0, 0, 0, .inl .null), (19, 3, .getfield 9, 4, 0, .inl .null), (22, 1, .arraylength, 0, 0, .inl .null), (23, 3, .if_icmp .ge 26, 49, 0, .inl .null), (26, 1, .aload_n 0, 0, 0, .inl .null), (27, 3, .getfield 9, 4, 0, .inl .null), (30, 1, .aload_n 0, 0, 0, .inl .null), (31, 3, .getfield 22, 4, 1, .inl .null), (34, 1, .iload_n 1, 1, 0, .inl .null), (35, 1, .iload_n 2, 2, 0, .inl .null), (36, 1, .ishr, 0, 0, .inl .null), (37, 1, .i2b, 0, 0, .inl .null), (38, 1, .bastore, 0, 0, .inl .null), (39, 1, .aload_n 0, 0, 0, .inl .null), (40, 1, .dup, 0, 0, .inl .null), (41, 3, .getfield 22, 4, 1, .inl .null), (44, 1, .iconst 1, 0, 0, .inl (.int 1)), (45, 1, .iadd, 0, 0, .inl .null), (46, 3, .putfield 22, 4, 1, .inl .null), (49, 3, .iinc 2 (-8), 2, 0, .inl (.int (-8))), (52, 3, .goto (-49), 3, 0, .inl .null), (55, 1, .return_, 0, 0, .inl .null)]
def cd_X3_parse : List gE := [(0, 1, .aload_n 0, 0, 0, .inl .null), (1, 1, .iconst 0, 0, 0, .inl (.int 0)), (2, 1, .iload_n 1, 1, 0, .inl .null), (3, 1, .aload_n 0, 0, 0, .inl .null), (4, 3, .getfield 22, 4, 1, .inl .null), (7, 3, .invokestatic 26, 308, 2, .inr (1, 0, 0)), (10, 3, .invokestatic 32, 307, 2, .inr (1, 0, 0)), (13, 3, .putfield 35, 4, 5, .inl .null), (16, 1, .aload_n 0, 0, 0, .inl .null), (17, 1, .iconst 0, 0, 0, .inl (.int 0)), (18, 3, .putfield 22, 4, 1, .inl .null), (21, 1, .aload_n 0, 0, 0, .inl .null), (22, 1, .iconst 0, 0, 0, .inl (.int 0)), (23, 3, .putfield 38, 4, 3, .inl .null), (26, 1, .aload_n 0, 0, 0, .inl .null), (27, 1, .iconst 0, 0, 0, .inl (.int 0)), (28, 3, .putfield 41, 4, 7, .inl .null), (31, 1, .aload_n 0, 0, 0, .inl .null), (32, 1, .iconst 0, 0, 0, .inl (.int 0)), (33, 3, .putfield 44, 4, 11, .inl .null), (36, 1, .aload_n 0, 0, 0, .inl .null), (37, 1, .iconst 0, 0, 0, .inl (.int 0)), (38, 3, .putfield 47, 4, 12, .inl .null), (41, 1, .aload_n 0, 0, 0, .inl .null), (42, 1, .iconst 0, 0, 0, .inl (.int 0)), (43, 3, .putfield 50, 4, 13, .inl .null), (46, 1, .aload_n 0, 0, 0, .inl .null), (47, 3, .getfield 18, 4, 2, .inl .null), (50, 3, .invokevirtual 53, 44, 97, .inr (0, 0, 0)), (53, 1, .aload_n 0, 0, 0, .inl .null), (54, 3, .invokevirtual 56, 31, 65, .inr (0, 0, 0)), (57, 1, .aload_n 0, 0, 0, .inl .null), (58, 3, .invokevirtual 59, 23, 65, .inr (1, 0, 0)), (61, 3, .ifCond .ne 5, 66, 0, .inl .null), (64, 1, .iconst 0, 0, 0, .inl (.int 0)), (65, 1, .ireturn, 0, 0, .inl .null), (66, 1, .iconst 0, 0, 0, .inl (.int 0)), (67, 1, .istore_n 2, 2, 0, .inl .null), (68, 1, .iload_n 2, 2, 0, .inl .null), (69, 3, .sipush 700, 0, 0, .inl (.int 700)), (72, 3, .if_icmp .ge 30, 102, 0, .inl .null), (75, 1, .aload_n 0, 0, 0, .inl .null), (76, 3, .getfield 63, 4, 6, .inl .null), (79, 1, .iconst 4, 0, 0, .inl (.int 4)), (80, 3, .if_icmp .ne 22, 102, 0, .inl .null), (83, 1, .aload_n 0, 0, 0, .inl .null), (84, 3, .invokevirtual 56, 31, 65, .inr (0, 0, 0)), (87, 1, .aload_n 0, 0, 0, .inl .null), (88, 3, .invokevirtual 66, 24, 65, .inr (1, 0, 0)), (91, 3, .ifCond .ne 5, 96, 0, .inl .null), (94, 1, .iconst 0, 0, 0, .inl (.int 0)), (95, 1, .ireturn, 0, 0, .inl .null), (96, 3, .iinc 2 1, 2, 0, .inl (.int 1)), (99, 3, .goto (-31), 68, 0, .inl .null), (102, 1, .aload_n 0, 0, 0, .inl .null), (103, 3, .getfield 18, 4, 2, .inl .null), (106, 3, .invokevirtual 69, 48, 97, .inr (0, 0, 0)), (109, 1, .aload_n 0, 0, 0, .inl .null), (110, 3, .getfield 63, 4, 6, .inl .null), (113, 3, .ifCond .eq 11, 124, 0, .inl .null), (116, 1, .aload_n 0, 0, 0, .inl .null), (117, 1, .iconst 1, 0, 0, .inl (.int 1)), (118, 3, .invokevirtual 72, 30, 66, .inr (1, 0, 0)), (121, 3, .ifCond .eq 7, 128, 0, .inl .null), (124, 1, .iconst 1, 0, 0, .inl (.int 1)), (125, 3, .goto 4, 129, 0, .inl .null), (128, 1, .iconst 0, 0, 0, .inl (.int 0)), (129, 1, .ireturn, 0, 0, .inl .null)]
def cd_X3_readHead : List gE := [(0, 1, .aload_n 0, 0, 0, .inl .null), (1, 2, .ldc 76, 0, 0, .inr (2, 0, 0)), (3, 3, .invokevirtual 78, 29, 66, .inr (1, 0, 0)), (6, 3, .ifCond .ne 9, 15, 0, .inl .null), (9, 1, .aload_n 0, 0, 0, .inl .null), (10, 1, .iconst 1, 0, 0, .inl (.int 1)), (11, 3, .invokevirtual 72, 30, 66, .inr (1, 0, 0)), (14, 1, .ireturn, 0, 0, .inl .null), (15, 1, .aload_n 0, 0, 0, .inl .null), (16, 3, .invokevirtual 56, 31, 65, .inr (0, 0, 0)), (19, 1, .aload_n 0, 0, 0, .inl .null), (20, 1, .iconst 1, 0, 0, .inl (.int 1)), (21, 2, .bipush 7, 0, 0, .inl (.int 7)), (23, 1, .iconst 0, 0, 0, .inl (.int 0)), (24, 3, .invokevirtual 82, 28, 68, .inr (1, 0, 0)), (27, 3, .ifCond .ne 5, 32, 0, .inl .null), (30, 1, .iconst 0, 0, 0, .inl (.int 0)), (31, 1, .ireturn, 0, 0, .inl .null), (32, 1, .aload_n 0, 0, 0, .inl .null), (33, 3, .getfield 18, 4, 2, .inl .null), (36, 1, .aload_n 0, 0, 0, .inl .null), (37, 3, .getfield 86, 4, 8, .inl .null), (40, 3, .putfield 89, 6, 0, .inl .null), (43, 1, .aload_n 0, 0, 0, .inl .null), (44, 3, .invokevirtual 56, 31, 65, .inr (0, 0, 0)), (47, 1, .aload_n 0, 0, 0, .inl .null), (48, 2, .ldc 92, 0, 0, .inr (2, 1, 0)), (50, 3, .invokevirtual 78, 29, 66, .inr (1, 0, 0)), (53, 3, .ifCond .ne 9, 62, 0, .inl .null), (56, 1, .aload_n 0, 0, 0, .inl .null), (57, 1, .iconst 1, 0, 0, .inl (.int 1)), (58, 3, .invokevirtual 72, 30, 66, .inr (1, 0, 0)), (61, 1, .ireturn, 0, 0, .inl .null), (62, 1, .aload_n 0, 0, 0, .inl .null), (63, 3, .invokevirtual 56, 31, 65, .inr (0, 0, 0)), (66, 1, .aload_n 0, 0, 0, .inl .null), (67, 3, .getfield 63, 4, 6, .inl .null), (70, 1, .iconst 2, 0, 0, .inl (.int 2)), (71, 3, .if_icmp .eq 9, 80, 0, .inl .null), (74, 1, .aload_n 0, 0, 0, .inl .null), (75, 1, .iconst 1, 0, 0, .inl (.int 1)), (76, 3, .invokevirtual 72, 30, 66, .inr (1, 0, 0)), (79, 1, .ireturn, 0, 0, .inl .null), (80, 1, .aload_n 0, 0, 0, .inl .null), (81, 3, .getfield 86, 4, 8, .inl .null), (84, 3, .invokestatic 94, 120, 1, .inr (1, 0, 0)), (87, 3, .ifCond .ne 9, 96, 0, .inl .null), (90, 1, .aload_n 0, 0, 0, .inl .null), (91, 1, .iconst 2, 0, 0, .inl (.int 2)), (92, 3, .invokevirtual 72, 30, 66, .inr (1, 0, 0)), (95, 1, .ireturn, 0, 0, .inl .null), (96, 1, .aload_n 0, 0, 0, .inl .null), (97, 3, .getfield 18, 4, 2, .inl .null), (100, 1, .aload_n 0, 0, 0, .inl .null), (101, 3, .getfield 86, 4, 8, .inl .null), (104, 3, .putfield 97, 6, 1, .inl .null), (107, 1, .aload_n 0, 0, 0, .inl .null), (108, 3, .invokevirtual 56, 31, 65, .inr (0, 0, 0)), (111, 1, .iconst 1, 0, 0, .inl (.int 1)), (112, 1, .ireturn, 0, 0, .inl .null)]
def cd_X3_readLine : List gE := [(0, 1, .aload_n 0, 0, 0, .inl .null), (1, 2, .ldc 100, 0, 0, .inr (2, 2, 0)), (3, 3, .invokevirtual 78, 29, 66, .inr (1, 0, 0)), (6, 3, .ifCond .eq 24, 30, 0, .inl .null), (9, 1, .aload_n 0, 0, 0, .inl .null), (10, 1, .iconst 0, 0, 0, .inl (.int 0)), (11, 3, .invokevirtual 102, 25, 66, .inr (1, 0, 0)), (14, 3, .ifCond .eq 14, 28, 0, .inl .null), (17, 1, .aload_n 0, 0, 0, .inl .null), (18, 3, .invokevirtual 106, 26, 65, .inr (1, 0, 0)), (21, 3, .ifCond .eq 7, 28, 0, .inl .null), (24, 1, .iconst 1, 0, 0, .inl (.int 1)), (25, 3, .goto 4, 29, 0, .inl .null), (28, 1, .iconst 0, 0, 0, .inl (.int 0)), (29, 1, .ireturn, 0, 0, .inl .null), (30, 1, .aload_n 0, 0, 0, .inl .null), (31, 2, .ldc 109, 0, 0, .inr (2, 3, 0)), (33, 3, .invokevirtual 78, 29, 66, .inr (1, 0, 0)), (36, 3, .ifCond .eq 49, 85, 0, .inl .null), (39, 1, .aload_n 0, 0, 0, .inl .null), (40, 1, .dup, 0, 0, .inl .null), (41, 3, .getfield 44, 4, 11, .inl .null), (44, 1, .iconst 1, 0, 0, .inl (.int 1)), (45, 1, .iadd, 0, 0, .inl .null), (46, 3, .putfield 44, 4, 11, .inl .null), (49, 1, .aload_n 0, 0, 0, .inl .null), (50, 3, .getfield 44, 4, 11, .inl .null), (53, 2, .bipush 8, 0, 0, .inl (.int 8)), (55, 3, .if_icmp .le 9, 64, 0, .inl .null), (58, 1, .aload_n 0, 0, 0, .inl .null), (59, 1, .iconst 4, 0, 0, .inl (.int 4)), (60, 3, .invokevirtual 72, 30, 66, .inr (1, 0, 0)), (63, 1, .ireturn, 0, 0, .inl .null), (64, 1, .aload_n 0, 0, 0, .inl .null), (65, 1, .iconst 1, 0, 0, .inl (.int 1)), (66, 3, .invokevirtual 102, 25, 66, .inr (1, 0, 0)), (69, 3, .ifCond .eq 14, 83, 0, .inl .null), (72, 1, .aload_n 0, 0, 0, .inl .null), (73, 3, .invokevirtual 106, 26, 65, .inr (1, 0, 0)), (76, 3, .ifCond .eq 7, 83, 0, .inl .null), (79, 1, .iconst 1, 0, 0, .inl (.int 1)), (80, 3, .goto 4, 84, 0, .inl .null), (83, 1, .iconst 0, 0, 0, .inl (.int 0)), (84, 1, .ireturn, 0, 0, .inl .null), (85, 1, .aload_n 0, 0, 0, .inl .null), (86, 2, .ldc 111, 0, 0, .inr (2, 4, 0)), (88, 3, .invokevirtual 78, 29, 66, .inr (1, 0, 0)), (91, 3, .ifCond .eq 16, 107, 0, .inl .null), (94, 1, .aload_n 0, 0, 0, .inl .null), (95, 1, .aload_n 0, 0, 0, .inl .null), (96, 3, .getfield 18, 4, 2, .inl .null), (99, 3, .getfield 113, 6, 3, .inl .null), (102, 1, .iconst 1, 0, 0, .inl (.int 1)), (103, 3, .invokevirtual 117, 27, 67, .inr (1, 0, 0)), (106, 1, .ireturn, 0, 0, .inl .null), (107, 1, .aload_n 0, 0, 0, .inl .null), (108, 2, .ldc 121, 0, 0, .inr (2, 5, 0)), (110, 3, .invokevirtual 78, 29, 66, .inr (1, 0, 0)), (113, 3, .ifCond .eq 18, 131, 0, .inl .null), (116, 1, .aload_n 0, 0, 0, .inl .null), (117, 1, .aload_n 0, 0, 0, .inl .null), (118, 3, .getfield 18, 4, 2, .inl .null), (121, 3, .getfield 123, 6, 4, .inl .null), (124, 3, .sipush 128, 0, 0, .inl (.int 128)), (127, 3, .invokevirtual 117, 27, 67, .inr (1, 0, 0)), (130, 1, .ireturn, 0, 0, .inl .null), (131, 1, .aload_n 0, 0, 0, .inl .null), (132, 1, .iconst 1, 0, 0, .inl (.int 1)), (133, 3, .invokevirtual 72, 30, 66, .inr (1, 0, 0)), (136, 1, .ireturn, 0, 0, .inl .null)]
def cd_X3_readRange : List gE := [(0, 1, .aload_n 0, 0, 0, .inl .null), (1, 3, .getfield 18, 4, 2, .inl .null), (4, 3, .getfield 89, 6, 0, .inl .null), (7, 1, .iconst 1, 0, 0, .inl (.int 1)), (8, 1, .isub, 0, 0, .inl .null), (9, 1, .istore_n 2, 2, 0, .inl .null), (10, 1, .aload_n 0, 0, 0, .inl .null), (11, 3, .invokevirtual 56, 31, 65, .inr (0, 0, 0)), (14, 1, .aload_n 0, 0, 0, .inl .null), (15, 1, .iload_n 2, 2, 0, .inl .null), (16, 1, .ineg, 0, 0, .inl .null), (17, 1, .iload_n 2, 2, 0, .inl .null), (18, 1, .iconst 1, 0, 0, .inl (.int 1)), (19, 3, .invokevirtual 82, 28, 68, .inr (1, 0, 0)), (22, 3, .ifCond .ne 5, 27, 0, .inl .null), (25, 1, .iconst 0, 0, 0, .inl (.int 0)), (26, 1, .ireturn, 0, 0, .inl .null), (27, 1, .aload_n 0, 0, 0, .inl .null), (28, 1, .aload_n 0, 0, 0, .inl .null), (29, 3, .getfield 86, 4, 8, .inl .null), (32, 3, .putfield 126, 4, 9, .inl .null), (35, 1, .iload_n 1, 1, 0, .inl .null), (36, 3, .ifCond .eq 22, 58, 0, .inl .null), (39, 1, .aload_n 0, 0, 0, .inl .null), (40, 3, .invokevirtual 56, 31, 65, .inr (0, 0, 0)), (43, 1, .aload_n 0, 0, 0, .inl .null), (44, 1, .aload_n 0, 0, 0, .inl .null), (45, 3, .getfield 126, 4, 9, .inl .null), (48, 1, .iload_n 2, 2, 0, .inl .null), (49, 1, .iconst 1, 0, 0, .inl (.int 1)), (50, 3, .invokevirtual 82, 28, 68, .inr (1, 0, 0)), (53, 3, .ifCond .ne 5, 58, 0, .inl .null), (56, 1, .iconst 0, 0, 0, .inl (.int 0)), (57, 1, .ireturn, 0, 0, .inl .null), (58, 1, .aload_n 0, 0, 0, .inl .null), (59, 1, .aload_n 0, 0, 0, .inl .null), (60, 3, .getfield 86, 4, 8, .inl .null), (63, 3, .putfield 129, 4, 10, .inl .null), (66, 1, .iconst 0, 0, 0, .inl (.int 0)), (67, 1, .istore_n 3, 3, 0, .inl .null), (68, 1, .aload_n 0, 0, 0, .inl .null), (69, 3, .getfield 126, 4, 9, .inl .null), (72, 2, .istore 4, 4, 0, .inl .null), (74, 2, .iload 4, 4, 0, .inl .null), (76, 1, .aload_n 0, 0, 0, .inl .null), (77, 3, .getfield 129, 4, 10, .inl .null), (80, 3, .if_icmp .gt 21, 101, 0, .inl .null), (83, 1, .iload_n 3, 3, 0, .inl .null), (84, 1, .iconst 1, 0, 0, .inl (.int 1)), (85, 2, .iload 4, 4, 0, .inl .null), (87, 2, .bipush 7, 0, 0, .inl (.int 7)), (89, 1, .iadd, 0, 0, .inl .null), (90, 1, .iconst 1, 0, 0, .inl (.int 1)), (91, 1, .isub, 0, 0, .inl .null), (92, 1, .ishl, 0, 0, .inl .null), (93, 1, .ior, 0, 0, .inl .null), (94, 1, .istore_n 3, 3, 0, .inl .null), (95, 3, .iinc 4 1, 4, 0, .inl (.int 1)), (98, 3, .goto (-24), 74, 0, .inl .null), (101, 1, .aload_n 0, 0, 0, .inl .null), (102, 3, .getfield 47, 4, 12, .inl .null), (105, 1, .iload_n 3, 3, 0, .inl .null), (106, 1, .iand, 0, 0, .inl .null), (107, 3, .ifCond .eq 9, 116, 0, .inl .null), (110, 1, .aload_n 0, 0, 0, .inl .null), (111, 1, .iconst 3, 0, 0, .inl (.int 3)), (112, 3, .invokevirtual 72, 30, 66, .inr (1, 0, 0)), (115, 1, .ireturn, 0, 0, .inl .null), (116, 1, .aload_n 0, 0, 0, .inl .null), (117, 1, .dup, 0, 0, .inl .null), (118, 3, .getfield 47, 4, 12, .inl .null), (121, 1, .iload_n 3, 3, 0, .inl .null), (122, 1, .ior, 0, 0, .inl .null), (123, 3, .putfield 47, 4, 12, .inl .null), (126, 1, .aload_n 0, 0, 0, .inl .null), (127, 3, .invokevirtual 56, 31, 65, .inr (0, 0, 0)), (130, 1, .iconst 1, 0, 0, .inl (.int 1)), (131, 1, .ireturn, 0, 0, .inl .null)]
def cd_X3_readRangeValue : List gE := [(0, 1, .aload_n 0, 0, 0, .inl .null), (1, 2, .bipush (-50), 0, 0, .inl (.int (-50))), (3, 2, .bipush 50, 0, 0, .inl (.int 50)), (5, 1, .iconst 1, 0, 0, .inl (.int 1)), (6, 3, .invokevirtual 82, 28, 68, .inr (1, 0, 0)), (9, 3, .ifCond .ne 5, 14, 0, .inl .null), (12, 1, .iconst 0, 0, 0, .inl (.int 0)), (13, 1, .ireturn, 0, 0, .inl .null), (14, 1, .aload_n 0, 0, 0, .inl .null), (15, 3, .getfield 126, 4, 9, .inl .null), (18, 1, .istore_n 1, 1, 0, .inl .null), (19, 1, .iload_n 1, 1, 0, .inl .null), (20, 1, .aload_n 0, 0, 0, .inl .null), (21, 3, .getfield 129, 4, 10, .inl .null), (24, 3, .if_icmp .gt 21, 45, 0, .inl .null), (27, 1, .aload_n 0, 0, 0, .inl .null), (28, 3, .getfield 18, 4, 2, .inl .null), (31, 1, .iload_n 1, 1, 0, .inl .null), (32, 1, .aload_n 0, 0, 0, .inl .null), (33, 3, .getfield 86, 4, 8, .inl .null), (36, 3, .invokevirtual 132, 47, 99, .inr (0, 0, 0)), (39, 3, .iinc 1 1, 1, 0, .inl (.int 1)), (42, 3, .goto (-23), 19, 0, .inl .null), (45, 1, .aload_n 0, 0, 0, .inl .null), (46, 3, .invokevirtual 56, 31, 65, .inr (0, 0, 0)), (49, 1, .iconst 1, 0, 0, .inl (.int 1)), (50, 1, .ireturn, 0, 0, .inl .null)]
def cd_X3_readPart : List gE := [(0, 1, .aload_n 0, 0, 0, .inl .null), (1, 3, .invokevirtual 56, 31, 65, .inr (0, 0, 0)), (4, 1, .aload_n 0, 0, 0, .inl .null), (5, 1, .iconst 0, 0, 0, .inl (.int 0)), (6, 1, .aload_n 0, 0, 0, .inl .null), (7, 3, .getfield 18, 4, 2, .inl .null), (10, 3, .getfield 89, 6, 0, .inl .null), (13, 1, .iconst 1, 0, 0, .inl (.int 1)), (14, 1, .isub, 0, 0, .inl .null), (15, 1, .iconst 0, 0, 0, .inl (.int 0)), (16, 3, .invokevirtual 82, 28, 68, .inr (1, 0, 0)), (19, 3, .ifCond .ne 5, 24, 0, .inl .null), (22, 1, .iconst 0, 0, 0, .inl (.int 0)), (23, 1, .ireturn, 0, 0, .inl .null), (24, 1, .aload_n 0, 0, 0, .inl .null), (25, 3, .getfield 86, 4, 8, .inl .null), (28, 1, .istore_n 3, 3, 0, .inl .null), (29, 1, .iload_n 2, 2, 0, .inl .null), (30, 1, .iload_n 3, 3, 0, .inl .null), (31, 1, .ishl, 0, 0, .inl .null), (32, 2, .istore 4, 4, 0, .inl .null), (34, 1, .aload_n 0, 0, 0, .inl .null), (35, 3, .getfield 50, 4, 13, .inl .null), (38, 2, .iload 4, 4, 0, .inl .null), (40, 1, .iand, 0, 0, .inl .null), (41, 3, .ifCond .eq 9, 50, 0, .inl .null), (44, 1, .aload_n 0, 0, 0, .inl .null), (45, 1, .iconst 3, 0, 0, .inl (.int 3)), (46, 3, .invokevirtual 72, 30, 66, .inr (1, 0, 0)), (49, 1, .ireturn, 0, 0, .inl .null), (50, 1, .aload_n 0, 0, 0, .inl .null), (51, 1, .dup, 0, 0, .inl .null), (52, 3, .getfield 50, 4, 13, .inl .null), (55, 2, .iload 4, 4, 0, .inl .null), (57, 1, .ior, 0, 0, .inl .null), (58, 3, .putfield 50, 4, 13, .inl .null), (61, 1, .aload_n 0, 0, 0, .inl .null), (62, 3, .invokevirtual 56, 31, 65, .inr (0, 0, 0)), (65, 1, .aload_n 0, 0, 0, .inl .null), (66, 3, .sipush (-999), 0, 0, .inl (.int (-999))), (69, 3, .sipush 999, 0, 0, .inl (.int 999)), (72, 1, .iconst 1, 0, 0, .inl (.int 1)), (73, 3, .invokevirtual 82, 28, 68, .inr (1, 0, 0)), (76, 3, .ifCond .ne 5, 81, 0, .inl .null), (79, 1, .iconst 0, 0, 0, .inl (.int 0)), (80, 1, .ireturn, 0, 0, .inl .null), (81, 1, .iload_n 3, 3, 0, .inl .null), (82, 3, .ifCond .lt 16, 98, 0, .inl .null), (85, 1, .iload_n 3, 3, 0, .inl .null), (86, 1, .aload_n 1, 1, 0, .inl .null), (87, 1, .arraylength, 0, 0, .inl .null), (88, 3, .if_icmp .ge 10, 98, 0, .inl .null), (91, 1, .aload_n 1, 1, 0, .inl .null), (92, 1, .iload_n 3, 3, 0, .inl .null), (93, 1, .aload_n 0, 0, 0, .inl .null), (94, 3, .getfield 86, 4, 8, .inl .null), (97, 1, .iastore, 0, 0, .inl .null), (98, 1, .aload_n 0, 0, 0, .inl .null), (99, 3, .invokevirtual 56, 31, 65, .inr (0, 0, 0)), (102, 1, .iconst 1, 0, 0, .inl (.int 1)), (103, 1, .ireturn, 0, 0, .inl .null)]
def cd_X3_reachNumber : List gE := [(0, 1, .iload_n 3, 3, 0, .inl .null), (1, 3, .ifCond .eq 15, 16, 0, .inl .null), (4, 1, .aload_n 0, 0, 0, .inl .null), (5, 3, .getfield 63, 4, 6, .inl .null), (8, 1, .iconst 3, 0, 0, .inl (.int 3)), (9, 3, .if_icmp .ne 7, 16, 0, .inl .null), (12, 1, .iconst 1, 0, 0, .inl (.int 1)), (13, 3, .goto 4, 17, 0, .inl .null), (16, 1, .iconst 0, 0, 0, .inl (.int 0)), (17, 2, .istore 4, 4, 0, .inl .null), (19, 2, .iload 4, 4, 0, .inl .null), (21, 3, .ifCond .eq 7, 28, 0, .inl .null), (24, 1, .aload_n 0, 0, 0, .inl .null), (25, 3, .invokevirtual 56, 31, 65, .inr (0, 0, 0)), (28, 1, .aload_n 0, 0, 0, .inl .null), (29, 3, .getfield 63, 4, 6, .inl .null), (32, 1, .iconst 2, 0, 0, .inl (.int 2)), (33, 3, .if_icmp .eq 9, 42, 0, .inl .null), (36, 1, .aload_n 0, 0, 0, .inl .null), (37, 1, .iconst 1, 0, 0, .inl (.int 1)), (38, 3, .invokevirtual 72, 30, 66, .inr (1, 0, 0)), (41, 1, .ireturn, 0, 0, .inl .null), (42, 2, .iload 4, 4, 0, .inl .null), (44, 3, .ifCond .eq 12, 56, 0, .inl .null), (47, 1, .aload_n 0, 0, 0, .inl .null), (48, 1, .aload_n 0, 0, 0, .inl .null), (49, 3, .getfield 86, 4, 8, .inl .null), (52, 1, .ineg, 0, 0, .inl .null), (53, 3, .putfield 86, 4, 8, .inl .null), (56, 1, .aload_n 0, 0, 0, .inl .null), (57, 3, .getfield 86, 4, 8, .inl .null), (60, 1, .iload_n 1, 1, 0, .inl .null), (61, 3, .if_icmp .lt 11, 72, 0, .inl .null), (64, 1, .aload_n 0, 0, 0, .inl .null), (65, 3, .getfield 86, 4, 8, .inl .null), (68, 1, .iload_n 2, 2, 0, .inl .null), (69, 3, .if_icmp .le 11, 80, 0, .inl .null), (72, 1, .aload_n 0, 0, 0, .inl .null), (73, 1, .iconst 2, 0, 0, .inl (.int 2)), (74, 3, .invokevirtual 72, 30, 66, .inr (1, 0, 0)), (77, 3, .ifCond .eq 7, 84, 0, .inl .null), (80, 1, .iconst 1, 0, 0, .inl (.int 1)), (81, 3, .goto 4, 85, 0, .inl .null), (84, 1, .iconst 0, 0, 0, .inl (.int 0)), (85, 1, .ireturn, 0, 0, .inl .null)]
def cd_X3_isWord : List gE := [(0, 1, .aload_n 0, 0, 0, .inl .null), (1, 3, .getfield 63, 4, 6, .inl .null), (4, 1, .iconst 1, 0, 0, .inl (.int 1)), (5, 3, .if_icmp .ne 19, 24, 0, .inl .null), (8, 1, .aload_n 0, 0, 0, .inl .null), (9, 3, .getfield 41, 4, 7, .inl .null), (12, 1, .aload_n 0, 0, 0, .inl .null), (13, 3, .getfield 136, 4, 4, .inl .null), (16, 1, .isub, 0, 0, .inl .null), (17, 1, .aload_n 1, 1, 0, .inl .null), (18, 3, .invokevirtual 139, 311, 33, .inr (1, 0, 0)), (21, 3, .if_icmp .eq 5, 26, 0, .inl .null), (24, 1, .iconst 0, 0, 0, .inl (.int 0)), (25, 1, .ireturn, 0, 0, .inl .null), (26, 1, .iconst 0, 0, 0, .inl (.int 0)), (27, 1, .istore_n 2, 2, 0, .inl .null), (28, 1, .iload_n 2, 2, 0, .inl .null), (29, 1, .aload_n 1, 1, 0, .inl .null), (30, 3, .invokevirtual 139, 311, 33, .inr (1, 0, 0)), (33, 3, .if_icmp .ge 29, 62, 0, .inl .null), (36, 1, .aload_n 0, 0, 0, .inl .null), (37, 1, .aload_n 0, 0, 0, .inl .null), (38, 3, .getfield 136, 4, 4, .inl .null), (41, 1, .iload_n 2, 2, 0, .inl .null), (42, 1, .iadd, 0, 0, .inl .null), (43, 3, .invokevirtual 144, 34, 66, .inr (1, 0, 0)), (46, 1, .aload_n 1, 1, 0, .inl .null), (47, 1, .iload_n 2, 2, 0, .inl .null), (48, 3, .invokevirtual 148, 312, 34, .inr (1, 0, 0)), (51, 3, .if_icmp .eq 5, 56, 0, .inl .null), (54, 1, .iconst 0, 0, 0, .inl (.int 0)), (55, 1, .ireturn, 0, 0, .inl .null), (56, 3, .iinc 2 1, 2, 0, .inl (.int 1)), (59, 3, .goto (-31), 28, 0, .inl .null), (62, 1, .iconst 1, 0, 0, .inl (.int 1)), (63, 1, .ireturn, 0, 0, .inl .null)]
def cd_X3_fail : List gE := [(0, 1, .aload_n 0, 0, 0, .inl .null), (1, 1, .iload_n 1, 1, 0, .inl .null), (2, 3, .putfield 38, 4, 3, .inl .null), (5, 1, .iconst 0, 0, 0, .inl (.int 0)), (6, 1, .ireturn, 0, 0, .inl .null)]
def cd_X3_advance : List gE := [(0, 1, .aload_n 0, 0, 0, .inl .null), (1, 1, .aload_n 0, 0, 0, .inl .null), (2, 1, .aload_n 0, 0, 0, .inl .null), (3, 3, .getfield 41, 4, 7, .inl .null), (6, 2, .bipush 32, 0, 0, .inl (.int 32)), (8, 2, .bipush 32, 0, 0, .inl (.int 32)), (10, 3, .invokevirtual 152, 32, 68, .inr (1, 0, 0)), (13, 3, .putfield 136, 4, 4, .inl .null), (16, 1, .aload_n 0, 0, 0, .inl .null), (17, 1, .aload_n 0, 0, 0, .inl .null), (18, 3, .getfield 136, 4, 4, .inl .null), (21, 2, .bipush 97, 0, 0, .inl (.int 97)), (23, 2, .bipush 122, 0, 0, .inl (.int 122)), (25, 3, .invokevirtual 152, 32, 68, .inr (1, 0, 0)), (28, 1, .istore_n 1, 1, 0, .inl .null), (29, 1, .aload_n 0, 0, 0, .inl .null), (30, 1, .aload_n 0, 0, 0, .inl .null), (31, 3, .getfield 136, 4, 4, .inl .null), (34, 2, .bipush 48, 0, 0, .inl (.int 48)), (36, 2, .bipush 57, 0, 0, .inl (.int 57)), (38, 3, .invokevirtual 152, 32, 68, .inr (1, 0, 0)), (41, 1, .istore_n 2, 2, 0, .inl .null), (42, 1, .iload_n 1, 1, 0, .inl .null), (43, 1, .aload_n 0, 0, 0, .inl .null), (44, 3, .getfield 136, 4, 4, .inl .null), (47, 3, .if_icmp .le 34, 81, 0, .inl .null), (50, 1, .aload_n 0, 0, 0, .inl .null), (51, 1, .iload_n 1, 1, 0, .inl .null), (52, 3, .putfield 41, 4, 7, .inl .null), (55, 1, .aload_n 0, 0, 0, .inl .null), (56, 1, .aload_n 0, 0, 0, .inl .null), (57, 3, .getfield 41, 4, 7, .inl .null), (60, 1, .aload_n 0, 0, 0, .inl .null), (61, 3, .getfield 136, 4, 4, .inl .null), (64, 1, .isub, 0, 0, .inl .null), (65, 2, .bipush 8, 0, 0, .inl (.int 8)), (67, 3, .if_icmp .le 7, 74, 0, .inl .null), (70, 1, .iconst 5, 0, 0, .inl (.int 5)), (71, 3, .goto 4, 75, 0, .inl .null), (74, 1, .iconst 1, 0, 0, .inl (.int 1)), (75, 3, .putfield 63, 4, 6, .inl .null), (78, 3, .goto 120, 198, 0, .inl .null), (81, 1, .iload_n 2, 2, 0, .inl .null), (82, 1, .aload_n 0, 0, 0, .inl .null), (83, 3, .getfield 136, 4, 4, .inl .null), (86, 3, .if_icmp .le 41, 127, 0, .inl .null), (89, 1, .aload_n 0, 0, 0, .inl .null), (90, 1, .iload_n 2, 2, 0, .inl .null), (91, 3, .putfield 41, 4, 7, .inl .null), (94, 1, .aload_n 0, 0, 0, .inl .null), (95, 1, .aload_n 0, 0, 0, .inl .null), (96, 3, .getfield 41, 4, 7, .inl .null), (99, 1, .aload_n 0, 0, 0, .inl .null), (100, 3, .getfield 136, 4, 4, .inl .null), (103, 1, .isub, 0, 0, .inl .null), (104, 1, .iconst 4, 0, 0, .inl (.int 4)), (105, 3, .if_icmp .le 7, 112, 0, .inl .null), (108, 1, .iconst 5, 0, 0, .inl (.int 5)), (109, 3, .goto 4, 113, 0, .inl .null), (112, 1, .iconst 2, 0, 0, .inl (.int 2)), (113, 3, .putfield 63, 4, 6, .inl .null), (116, 1, .aload_n 0, 0, 0, .inl .null), (117, 1, .aload_n 0, 0, 0, .inl .null), (118, 3, .invokevirtual 156, 33, 65, .inr (1, 0, 0)), (121, 3, .putfield 86, 4, 8, .inl .null), (124, 3, .goto 74, 198, 0, .inl .null), (127, 1, .aload_n 0, 0, 0, .inl .null), (128, 3, .getfield 136, 4, 4, .inl .null), (131, 1, .aload_n 0, 0, 0, .inl .null), (132, 3, .getfield 35, 4, 5, .inl .null), (135, 3, .if_icmp .ge 50, 185, 0, .inl .null), (138, 1, .aload_n 0, 0, 0, .inl .null), (139, 1, .aload_n 0, 0, 0, .inl .null), (140, 3, .getfield 136, 4, 4, .inl .null), (143, 3, .invokevirtual 144, 34, 66, .inr (1, 0, 0)), (146, 1, .istore_n 3, 3, 0, .inl .null), (147, 1, .aload_n 0, 0, 0, .inl .null), (148, 1, .aload_n 0, 0, 0, .inl .null), (149, 3, .getfield 136, 4, 4, .inl .null), (152, 1, .iconst 1, 0, 0, .inl (.int 1)), (153, 1, .iadd, 0, 0, .inl .null), (154, 3, .putfield 41, 4, 7, .inl .null), (157, 1, .aload_n 0, 0, 0, .inl .null), (158, 1, .iload_n 3, 3, 0, .inl .null), (159, 2, .bipush 45, 0, 0, .inl (.int 45)), (161, 3, .if_icmp .ne 7, 168, 0, .inl .null), (164, 1, .iconst 3, 0, 0, .inl (.int 3)), (165, 3, .goto 14, 179, 0, .inl .null), (168, 1, .iload_n 3, 3, 0, .inl .null), (169, 2, .bipush 59, 0, 0, .inl (.int 59)), (171, 3, .if_icmp .ne 7, 178, 0, .inl .null), (174, 1, .iconst 4, 0, 0, .inl (.int 4)), (175, 3, .goto 4, 179, 0, .inl .null), (178, 1, .iconst 5, 0, 0, .inl (.int 5)), (179, 3, .putfield 63, 4, 6, .inl .null), (182, 3, .goto 16, 198, 0, .inl .null), (185, 1, .aload_n 0, 0, 0, .inl .null), (186, 1, .aload_n 0, 0, 0, .inl .null), (187, 3, .getfield 136, 4, 4, .inl .null), (190, 3, .putfield 41, 4, 7, .inl .null), (193, 1, .aload_n 0, 0, 0, .inl .null), (194, 1, .iconst 0, 0, 0, .inl (.int 0)), (195, 3, .putfield 63, 4, 6, .inl .null), (198, 1, .return_, 0, 0, .inl .null)]
def cd_X3_runEnd : List gE := [(0, 1, .iload_n 1, 1, 0, .inl .null), (1, 2, .istore 4, 4, 0, .inl .null), (3, 2, .iload 4, 4, 0, .inl .null), (5, 1, .aload_n 0, 0, 0, .inl .null), (6, 3, .getfield 35, 4, 5, .inl .null), (9, 3, .if_icmp .ge 29, 38, 0, .inl .null), (12, 1, .aload_n 0, 0, 0, .inl .null), (13, 2, .iload 4, 4, 0, .inl .null), (15, 3, .invokevirtual 144, 34, 66, .inr (1, 0, 0)), (18, 1, .iload_n 2, 2, 0, .inl .null), (19, 3, .if_icmp .lt 19, 38, 0, .inl .null), (22, 1, .aload_n 0, 0, 0, .inl .null), (23, 2, .iload 4, 4, 0, .inl .null), (25, 3, .invokevirtual 144, 34, 66, .inr (1, 0, 0)), (28, 1, .iload_n 3, 3, 0, .inl .null), (29, 3, .if_icmp .gt 9, 38, 0, .inl .null), (32, 3, .iinc 4 1, 4, 0, .inl (.int 1)), (35, 3, .goto (-32), 3, 0, .inl .null), (38, 2, .iload 4, 4, 0, .inl .null), (40, 1, .ireturn, 0, 0, .inl .null)]
def cd_X3_readDecimals : List gE := [(0, 1, .iconst 0, 0, 0, .inl (.int 0)), (1, 1, .istore_n 1, 1, 0, .inl .null), (2, 1, .aload_n 0, 0, 0, .inl .null), (3, 3, .getfield 136, 4, 4, .inl .null), (6, 1, .istore_n 2, 2, 0, .inl .null), (7, 1, .iload_n 2, 2, 0, .inl .null), (8, 1, .aload_n 0, 0, 0, .inl .null), (9, 3, .getfield 41, 4, 7, .inl .null), (12, 3, .if_icmp .ge 33, 45, 0, .inl .null), (15, 1, .iload_n 2, 2, 0, .inl .null), (16, 1, .aload_n 0, 0, 0, .inl .null), (17, 3, .getfield 136, 4, 4, .inl .null), (20, 1, .isub, 0, 0, .inl .null), (21, 1, .iconst 4, 0, 0, .inl (.int 4)), (22, 3, .if_icmp .ge 23, 45, 0, .inl .null), (25, 2, .bipush 10, 0, 0, .inl (.int 10)), (27, 1, .iload_n 1, 1, 0, .inl .null), (28, 1, .imul, 0, 0, .inl .null), (29, 1, .aload_n 0, 0, 0, .inl .null), (30, 1, .iload_n 2, 2, 0, .inl .null), (31, 3, .invokevirtual 144, 34, 66, .inr (1, 0, 0)), (34, 1, .iadd, 0, 0, .inl .null), (35, 2, .bipush 48, 0, 0, .inl (.int 48)), (37, 1, .isub, 0, 0, .inl .null), (38, 1, .istore_n 1, 1, 0, .inl .null), (39, 3, .iinc 2 1, 2, 0, .inl (.int 1)), (42, 3, .goto (-35), 7, 0, .inl .null), (45, 1, .iload_n 1, 1, 0, .inl .null), (46, 1, .ireturn, 0, 0, .inl .null)]
def cd_X3_byteAt : List gE := [(0, 1, .iload_n 1, 1, 0, .inl .null), (1, 3, .ifCond .lt 25, 26, 0, .inl .null), (4, 1, .iload_n 1, 1, 0, .inl .null), (5, 1, .aload_n 0, 0, 0, .inl .null), (6, 3, .getfield 9, 4, 0, .inl .null), (9, 1, .arraylength, 0, 0, .inl .null), (10, 3, .if_icmp .ge 16, 26, 0, .inl .null), (13, 1, .aload_n 0, 0, 0, .inl .null), (14, 3, .getfield 9, 4, 0, .inl .null), (17, 1, .iload_n 1, 1, 0, .inl .null), (18, 1, .baload, 0, 0, .inl .null), (19, 3, .sipush 255, 0, 0, .inl (.int 255)), (22, 1, .iand, 0, 0, .inl .null), (23, 3, .goto 4, 27, 0, .inl .null), (26, 1, .iconst (-1), 0, 0, .inl (.int (-1))), (27, 1, .ireturn, 0, 0, .inl .null)]
def cd_X4_prepare : List gE := [(0, 1, .aload_n 1, 1, 0, .inl .null), (1, 3, .getfield 22, 6, 0, .inl .null), (4, 1, .istore_n 2, 2, 0, .inl .null), (5, 1, .aload_n 0, 0, 0, .inl .null), (6, 3, .getfield 12, 28, 0, .inl .null), (9, 1, .aload_n 1, 1, 0, .inl .null), (10, 1, .iload_n 2, 2, 0, .inl .null), (11, 1, .aload_n 1, 1, 0, .inl .null), (12, 3, .getfield 28, 6, 1, .inl .null), (15, 1, .iload_n 2, 2, 0, .inl .null), (16, 3, .invokevirtual 31, 6, 277, .inr (0, 0, 0)), (19, 1, .iconst 0, 0, 0, .inl (.int 0)), (20, 1, .istore_n 3, 3, 0, .inl .null), (21, 1, .iload_n 3, 3, 0, .inl .null), (22, 1, .iload_n 2, 2, 0, .inl .null), (23, 3, .if_icmp .ge 21, 44, 0, .inl .null), (26, 1, .aload_n 0, 0, 0, .inl .null), (27, 3, .getfield 12, 28, 0, .inl .null), (30, 1, .iload_n 3, 3, 0, .inl .null), (31, 1, .iload_n 2, 2, 0, .inl .null), (32, 1, .iload_n 3, 3, 0, .inl .null), (33, 1, .iadd, 0, 0, .inl .null), (34, 1, .iconst 1, 0, 0, .inl (.int 1)), (35, 3, .invokevirtual 35, 9, 276, .inr (0, 0, 0)), (38, 3, .iinc 3 1, 3, 0, .inl (.int 1)), (41, 3, .goto (-20), 21, 0, .inl .null), (44, 1, .aload_n 0, 0, 0, .inl .null), (45, 3, .getfield 12, 28, 0, .inl .null), (48, 1, .iload_n 2, 2, 0, .inl .null), (49, 3, .invokevirtual 39, 11, 274, .inr (1, 0, 0)), (52, 1, .iload_n 2, 2, 0, .inl .null), (53, 3, .if_icmp .ne 7, 60, 0, .inl .null), (56, 1, .iconst 1, 0, 0, .inl (.int 1)), (57, 3, .goto 4, 61, 0, .inl .null), (60, 1, .iconst 0, 0, 0, .inl (.int 0)), (61, 1, .ireturn, 0, 0, .inl .null)]
def cd_X4_ofInverse : List gE := [(0, 1, .aload_n 0, 0, 0, .inl .null), (1, 3, .getfield 12, 28, 0, .inl .null), (4, 1, .iload_n 1, 1, 0, .inl .null), (5, 1, .aload_n 0, 0, 0, .inl .null), (6, 3, .getfield 12, 28, 0, .inl .null), (9, 3, .invokevirtual 43, 7, 273, .inr (1, 0, 0)), (12, 1, .iload_n 2, 2, 0, .inl .null), (13, 1, .iadd, 0, 0, .inl .null), (14, 3, .invokevirtual 47, 8, 275, .inr (1, 0, 0)), (17, 1, .ireturn, 0, 0, .inl .null)]
def cd_X4_addDigit : List gE := [(0, 1, .aload_n 1, 1, 0, .inl .null), (1, 3, .getfield 22, 6, 0, .inl .null), (4, 1, .aload_n 0, 0, 0, .inl .null), (5, 3, .getfield 18, 28, 1, .inl .null), (8, 1, .arraylength, 0, 0, .inl .null), (9, 3, .invokestatic 51, 308, 2, .inr (1, 0, 0)), (12, 1, .istore_n 2, 2, 0, .inl .null), (13, 1, .iconst 0, 0, 0, .inl (.int 0)), (14, 1, .istore_n 3, 3, 0, .inl .null), (15, 1, .iload_n 3, 3, 0, .inl .null), (16, 1, .iload_n 2, 2, 0, .inl .null), (17, 3, .if_icmp .ge 69, 86, 0, .inl .null), (20, 1, .iconst 0, 0, 0, .inl (.int 0)), (21, 2, .istore 4, 4, 0, .inl .null), (23, 1, .iconst 0, 0, 0, .inl (.int 0)), (24, 2, .istore 5, 5, 0, .inl .null), (26, 2, .iload 5, 5, 0, .inl .null), (28, 1, .iload_n 2, 2, 0, .inl .null), (29, 3, .if_icmp .ge 36, 65, 0, .inl .null), (32, 2, .iload 4, 4, 0, .inl .null), (34, 1, .aload_n 0, 0, 0, .inl .null), (35, 1, .iload_n 3, 3, 0, .inl .null), (36, 2, .iload 5, 5, 0, .inl .null), (38, 3, .invokevirtual 56, 36, 451, .inr (1, 0, 0)), (41, 1, .aload_n 1, 1, 0, .inl .null), (42, 3, .getfield 59, 6, 8, .inl .null), (45, 2, .iload 5, 5, 0, .inl .null), (47, 1, .iaload, 0, 0, .inl .null), (48, 1, .aload_n 1, 1, 0, .inl .null), (49, 3, .getfield 28, 6, 1, .inl .null), (52, 3, .invokestatic 62, 121, 2, .inr (1, 0, 0)), (55, 1, .imul, 0, 0, .inl .null), (56, 1, .iadd, 0, 0, .inl .null), (57, 2, .istore 4, 4, 0, .inl .null), (59, 3, .iinc 5 1, 5, 0, .inl (.int 1)), (62, 3, .goto (-36), 26, 0, .inl .null), (65, 1, .aload_n 0, 0, 0, .inl .null), (66, 3, .getfield 18, 28, 1, .inl .null), (69, 1, .iload_n 3, 3, 0, .inl .null), (70, 2, .iload 4, 4, 0, .inl .null), (72, 1, .aload_n 1, 1, 0, .inl .null), (73, 3, .getfield 28, 6, 1, .inl .null), (76, 3, .invokestatic 62, 121, 2, .inr (1, 0, 0)), (79, 1, .iastore, 0, 0, .inl .null), (80, 3, .iinc 3 1, 3, 0, .inl (.int 1)), (83, 3, .goto (-68), 15, 0, .inl .null), (86, 1, .iconst 0, 0, 0, .inl (.int 0)), (87, 1, .istore_n 3, 3, 0, .inl .null), (88, 1, .iload_n 3, 3, 0, .inl .null), (89, 1, .iload_n 2, 2, 0, .inl .null), (90, 3, .if_icmp .ge 42, 132, 0, .inl .null), (93, 1, .aload_n 1, 1, 0, .inl .null), (94, 3, .getfield 65, 6, 7, .inl .null), (97, 1, .iload_n 3, 3, 0, .inl .null), (98, 1, .dup2, 0, 0, .inl .null), (99, 1, .laload, 0, 0, .inl .null), (100, 1, .aload_n 0, 0, 0, .inl .null), (101, 3, .getfield 18, 28, 1, .inl .null), (104, 1, .iload_n 3, 3, 0, .inl .null), (105, 1, .iaload, 0, 0, .inl .null), (106, 1, .i2l, 0, 0, .inl .null), (107, 1, .aload_n 1, 1, 0, .inl .null), (108, 3, .getfield 69, 6, 6, .inl .null), (111, 1, .lmul, 0, 0, .inl .null), (112, 1, .ladd, 0, 0, .inl .null), (113, 1, .lastore, 0, 0, .inl .null), (114, 1, .aload_n 1, 1, 0, .inl .null), (115, 3, .getfield 59, 6, 8, .inl .null), (118, 1, .iload_n 3, 3, 0, .inl .null), (119, 1, .aload_n 0, 0, 0, .inl .null), (120, 1, .aload_n 1, 1, 0, .inl .null), (121, 1, .iload_n 3, 3, 0, .inl .null), (122, 3, .invokevirtual 73, 38, 451, .inr (1, 0, 0)), (125, 1, .iastore, 0, 0, .inl .null), (126, 3, .iinc 3 1, 3, 0, .inl (.int 1)), (129, 3, .goto (-41), 88, 0, .inl .null), (132, 1, .aload_n 1, 1, 0, .inl .null), (133, 1, .dup, 0, 0, .inl .null), (134, 3, .getfield 69, 6, 6, .inl .null), (137, 1, .aload_n 1, 1, 0, .inl .null), (138, 3, .getfield 28, 6, 1, .inl .null), (141, 1, .i2l, 0, 0, .inl .null), (142, 1, .lmul, 0, 0, .inl .null), (143, 3, .putfield 69, 6, 6, .inl .null), (146, 1, .aload_n 1, 1, 0, .inl .null), (147, 1, .dup, 0, 0, .inl .null), (148, 3, .getfield 77, 6, 5, .inl .null), (151, 1, .iconst 1, 0, 0, .inl (.int 1)), (152, 1, .iadd, 0, 0, .inl .null), (153, 3, .putfield 77, 6, 5, .inl .null), (156, 1, .return_, 0, 0, .inl .null)]
def cd_X4_nextRest : List gE := [(0, 1, .aload_n 1, 1, 0, .inl .null), (1, 3, .getfield 59, 6, 8, .inl .null), (4, 1, .iload_n 2, 2, 0, .inl .null), (5, 1, .iaload, 0, 0, .inl .null), (6, 1, .istore_n 3, 3, 0, .inl .null), (7, 1, .iconst 0, 0, 0, .inl (.int 0)), (8, 2, .istore 4, 4, 0, .inl .null), (10, 2, .iload 4, 4, 0, .inl .null), (12, 1, .aload_n 1, 1, 0, .inl .null), (13, 3, .getfield 22, 6, 0, .inl .null), (16, 3, .if_icmp .ge 38, 54, 0, .inl .null), (19, 2, .iload 4, 4, 0, .inl .null), (21, 1, .aload_n 0, 0, 0, .inl .null), (22, 3, .getfield 18, 28, 1, .inl .null), (25, 1, .arraylength, 0, 0, .inl .null), (26, 3, .if_icmp .ge 28, 54, 0, .inl .null), (29, 1, .iload_n 3, 3, 0, .inl .null), (30, 1, .aload_n 1, 1, 0, .inl .null), (31, 1, .iload_n 2, 2, 0, .inl .null), (32, 2, .iload 4, 4, 0, .inl .null), (34, 1, .isub, 0, 0, .inl .null), (35, 3, .invokevirtual 80, 46, 98, .inr (1, 0, 0)), (38, 1, .aload_n 0, 0, 0, .inl .null), (39, 3, .getfield 18, 28, 1, .inl .null), (42, 2, .iload 4, 4, 0, .inl .null), (44, 1, .iaload, 0, 0, .inl .null), (45, 1, .imul, 0, 0, .inl .null), (46, 1, .isub, 0, 0, .inl .null), (47, 1, .istore_n 3, 3, 0, .inl .null), (48, 3, .iinc 4 1, 4, 0, .inl (.int 1)), (51, 3, .goto (-41), 10, 0, .inl .null), (54, 1, .aload_n 1, 1, 0, .inl .null), (55, 3, .getfield 28, 6, 1, .inl .null), (58, 1, .iconst 1, 0, 0, .inl (.int 1)), (59, 3, .if_icmp .ge 7, 66, 0, .inl .null), (62, 1, .iconst 0, 0, 0, .inl (.int 0)), (63, 3, .goto 9, 72, 0, .inl .null), (66, 1, .iload_n 3, 3, 0, .inl .null), (67, 1, .aload_n 1, 1, 0, .inl .null), (68, 3, .getfield 28, 6, 1, .inl .null), (71, 1, .idiv, 0, 0, .inl .null), (72, 1, .ireturn, 0, 0, .inl .null)]
def cd_X4_liftAndEnter : List gE := [(0, 1, .aload_n 0, 0, 0, .inl .null), (1, 1, .aload_n 1, 1, 0, .inl .null), (2, 3, .invokevirtual 83, 37, 450, .inr (0, 0, 0)), (5, 1, .aload_n 2, 2, 0, .inl .null), (6, 1, .aload_n 1, 1, 0, .inl .null), (7, 3, .invokevirtual 87, 1, 402, .inr (1, 0, 0)), (10, 1, .istore_n 3, 3, 0, .inl .null), (11, 1, .aload_n 1, 1, 0, .inl .null), (12, 1, .iload_n 3, 3, 0, .inl .null), (13, 3, .invokevirtual 93, 51, 98, .inr (0, 0, 0)), (16, 1, .iload_n 3, 3, 0, .inl .null), (17, 1, .ireturn, 0, 0, .inl .null)]
def cd_X5_component : List gE := [(0, 1, .iload_n 1, 1, 0, .inl .null), (1, 3, .ifCond .lt 19, 20, 0, .inl .null), (4, 1, .iload_n 1, 1, 0, .inl .null), (5, 2, .bipush 7, 0, 0, .inl (.int 7)), (7, 3, .if_icmp .ge 13, 20, 0, .inl .null), (10, 1, .iload_n 2, 2, 0, .inl .null), (11, 3, .ifCond .lt 9, 20, 0, .inl .null), (14, 1, .iload_n 2, 2, 0, .inl .null), (15, 2, .bipush 7, 0, 0, .inl (.int 7)), (17, 3, .if_icmp .lt 5, 22, 0, .inl .null), (20, 1, .iconst 0, 0, 0, .inl (.int 0)), (21, 1, .ireturn, 0, 0, .inl .null), (22, 1, .iload_n 3, 3, 0, .inl .null), (23, 3, .ifCond .eq 14, 37, 0, .inl .null), (26, 1, .aload_n 0, 0, 0, .inl .null), (27, 3, .getfield 16, 20, 1, .inl .null), (30, 1, .iload_n 1, 1, 0, .inl .null), (31, 1, .aaload, 0, 0, .inl .null), (32, 1, .iload_n 2, 2, 0, .inl .null), (33, 1, .iaload, 0, 0, .inl .null), (34, 3, .goto 11, 45, 0, .inl .null), (37, 1, .aload_n 0, 0, 0, .inl .null), (38, 3, .getfield 11, 20, 0, .inl .null), (41, 1, .iload_n 1, 1, 0, .inl .null), (42, 1, .aaload, 0, 0, .inl .null), (43, 1, .iload_n 2, 2, 0, .inl .null), (44, 1, .iaload, 0, 0, .inl .null), (45, 1, .ireturn, 0, 0, .inl .null)]
def cd_X5_find : List gE := [(0, 1, .aload_n 1, 1, 0, .inl .null), (1, 3, .invokevirtual 19, 7, 273, .inr (1, 0, 0)), (4, 1, .istore_n 3, 3, 0, .inl .null), (5, 1, .iconst 0, 0, 0, .inl (.int 0)), (6, 2, .istore 4, 4, 0, .inl .null), (8, 1, .iconst 0, 0, 0, .inl (.int 0)), (9, 1, .iload_n 2, 2, 0, .inl .null), (10, 3, .invokestatic 25, 307, 2, .inr (1, 0, 0)), (13, 2, .istore 5, 5, 0, .inl .null), (15, 2, .iload 5, 5, 0, .inl .null), (17, 1, .iload_n 3, 3, 0, .inl .null), (18, 3, .if_icmp .ge 69, 87, 0, .inl .null), (21, 1, .iconst 0, 0, 0, .inl (.int 0)), (22, 1, .iload_n 2, 2, 0, .inl .null), (23, 3, .invokestatic 25, 307, 2, .inr (1, 0, 0)), (26, 2, .istore 6, 6, 0, .inl .null), (28, 2, .iload 6, 6, 0, .inl .null), (30, 1, .iload_n 3, 3, 0, .inl .null), (31, 3, .if_icmp .ge 50, 81, 0, .inl .null), (34, 1, .aload_n 1, 1, 0, .inl .null), (35, 2, .iload 5, 5, 0, .inl .null), (37, 2, .iload 6, 6, 0, .inl .null), (39, 3, .invokevirtual 31, 8, 275, .inr (1, 0, 0)), (42, 3, .ifCond .eq 33, 75, 0, .inl .null), (45, 2, .iload 4, 4, 0, .inl .null), (47, 2, .bipush 7, 0, 0, .inl (.int 7)), (49, 3, .if_icmp .ge 26, 75, 0, .inl .null), (52, 1, .aload_n 0, 0, 0, .inl .null), (53, 1, .aload_n 1, 1, 0, .inl .null), (54, 1, .iload_n 2, 2, 0, .inl .null), (55, 2, .iload 4, 4, 0, .inl .null), (57, 2, .iload 5, 5, 0, .inl .null), (59, 2, .iload 6, 6, 0, .inl .null), (61, 3, .invokevirtual 34, 42, 326, .inr (0, 0, 0)), (64, 1, .aload_n 0, 0, 0, .inl .null), (65, 1, .aload_n 1, 1, 0, .inl .null), (66, 1, .iload_n 2, 2, 0, .inl .null), (67, 2, .iload 4, 4, 0, .inl .null), (69, 3, .invokevirtual 38, 43, 324, .inr (0, 0, 0)), (72, 3, .iinc 4 1, 4, 0, .inl (.int 1)), (75, 3, .iinc 6 1, 6, 0, .inl (.int 1)), (78, 3, .goto (-50), 28, 0, .inl .null), (81, 3, .iinc 5 1, 5, 0, .inl (.int 1)), (84, 3, .goto (-69), 15, 0, .inl .null), (87, 2, .iload 4, 4, 0, .inl .null), (89, 1, .ireturn, 0, 0, .inl .null)]
def cd_X5_keep : List gE := [(0, 1, .aload_n 1, 1, 0, .inl .null), (1, 1, .aload_n 1, 1, 0, .inl .null), (2, 2, .iload 4, 4, 0, .inl .null), (4, 2, .iload 5, 5, 0, .inl .null), (6, 3, .invokevirtual 31, 8, 275, .inr (1, 0, 0)), (9, 3, .invokevirtual 42, 15, 274, .inr (1, 0, 0)), (12, 2, .istore 6, 6, 0, .inl .null), (14, 1, .iconst 0, 0, 0, .inl (.int 0)), (15, 1, .iload_n 2, 2, 0, .inl .null), (16, 3, .invokestatic 25, 307, 2, .inr (1, 0, 0)), (19, 2, .istore 7, 7, 0, .inl .null), (21, 2, .iload 7, 7, 0, .inl .null), (23, 1, .aload_n 1, 1, 0, .inl .null), (24, 3, .invokevirtual 19, 7, 273, .inr (1, 0, 0)), (27, 3, .if_icmp .ge 53, 80, 0, .inl .null), (30, 1, .aload_n 0, 0, 0, .inl .null), (31, 3, .getfield 11, 20, 0, .inl .null), (34, 1, .iload_n 3, 3, 0, .inl .null), (35, 1, .aaload, 0, 0, .inl .null), (36, 2, .iload 7, 7, 0, .inl .null), (38, 1, .aload_n 1, 1, 0, .inl .null), (39, 2, .iload 7, 7, 0, .inl .null), (41, 2, .iload 5, 5, 0, .inl .null), (43, 3, .invokevirtual 31, 8, 275, .inr (1, 0, 0)), (46, 2, .iload 6, 6, 0, .inl .null), (48, 1, .imul, 0, 0, .inl .null), (49, 1, .aload_n 1, 1, 0, .inl .null), (50, 3, .getfield 46, 17, 3, .inl .null), (53, 3, .invokestatic 50, 121, 2, .inr (1, 0, 0)), (56, 1, .iastore, 0, 0, .inl .null), (57, 1, .aload_n 0, 0, 0, .inl .null), (58, 3, .getfield 16, 20, 1, .inl .null), (61, 1, .iload_n 3, 3, 0, .inl .null), (62, 1, .aaload, 0, 0, .inl .null), (63, 2, .iload 7, 7, 0, .inl .null), (65, 1, .aload_n 1, 1, 0, .inl .null), (66, 2, .iload 4, 4, 0, .inl .null), (68, 2, .iload 7, 7, 0, .inl .null), (70, 3, .invokevirtual 31, 8, 275, .inr (1, 0, 0)), (73, 1, .iastore, 0, 0, .inl .null), (74, 3, .iinc 7 1, 7, 0, .inl (.int 1)), (77, 3, .goto (-56), 21, 0, .inl .null), (80, 1, .return_, 0, 0, .inl .null)]
def cd_X5_subtract : List gE := [(0, 1, .aload_n 1, 1, 0, .inl .null), (1, 3, .invokevirtual 19, 7, 273, .inr (1, 0, 0)), (4, 2, .istore 4, 4, 0, .inl .null), (6, 1, .iconst 0, 0, 0, .inl (.int 0)), (7, 1, .iload_n 2, 2, 0, .inl .null), (8, 3, .invokestatic 25, 307, 2, .inr (1, 0, 0)), (11, 2, .istore 5, 5, 0, .inl .null), (13, 2, .iload 5, 5, 0, .inl .null), (15, 2, .iload 4, 4, 0, .inl .null), (17, 3, .if_icmp .ge 65, 82, 0, .inl .null), (20, 1, .iconst 0, 0, 0, .inl (.int 0)), (21, 1, .iload_n 2, 2, 0, .inl .null), (22, 3, .invokestatic 25, 307, 2, .inr (1, 0, 0)), (25, 2, .istore 6, 6, 0, .inl .null), (27, 2, .iload 6, 6, 0, .inl .null), (29, 2, .iload 4, 4, 0, .inl .null), (31, 3, .if_icmp .ge 45, 76, 0, .inl .null), (34, 1, .aload_n 1, 1, 0, .inl .null), (35, 2, .iload 5, 5, 0, .inl .null), (37, 2, .iload 6, 6, 0, .inl .null), (39, 1, .aload_n 1, 1, 0, .inl .null), (40, 2, .iload 5, 5, 0, .inl .null), (42, 2, .iload 6, 6, 0, .inl .null), (44, 3, .invokevirtual 31, 8, 275, .inr (1, 0, 0)), (47, 1, .aload_n 0, 0, 0, .inl .null), (48, 3, .getfield 11, 20, 0, .inl .null), (51, 1, .iload_n 3, 3, 0, .inl .null), (52, 1, .aaload, 0, 0, .inl .null), (53, 2, .iload 5, 5, 0, .inl .null), (55, 1, .iaload, 0, 0, .inl .null), (56, 1, .aload_n 0, 0, 0, .inl .null), (57, 3, .getfield 16, 20, 1, .inl .null), (60, 1, .iload_n 3, 3, 0, .inl .null), (61, 1, .aaload, 0, 0, .inl .null), (62, 2, .iload 6, 6, 0, .inl .null), (64, 1, .iaload, 0, 0, .inl .null), (65, 1, .imul, 0, 0, .inl .null), (66, 1, .isub, 0, 0, .inl .null), (67, 3, .invokevirtual 53, 9, 276, .inr (0, 0, 0)), (70, 3, .iinc 6 1, 6, 0, .inl (.int 1)), (73, 3, .goto (-46), 27, 0, .inl .null), (76, 3, .iinc 5 1, 5, 0, .inl (.int 1)), (79, 3, .goto (-66), 13, 0, .inl .null), (82, 1, .return_, 0, 0, .inl .null)]
def cd_X6_clear : List gE := [(0, 1, .aload_n 0, 0, 0, .inl .null), (1, 1, .iconst 0, 0, 0, .inl (.int 0)), (2, 3, .putfield 35, 6, 0, .inl .null), (5, 1, .aload_n 0, 0, 0, .inl .null), (6, 1, .iconst 0, 0, 0, .inl (.int 0)), (7, 3, .putfield 39, 6, 1, .inl .null), (10, 1, .aload_n 0, 0, 0, .inl .null), (11, 3, .getfield 9, 6, 2, .inl .null), (14, 1, .iconst 0, 0, 0, .inl (.int 0)), (15, 3, .invokestatic 42, 310, 2, .inr (0, 0, 0)), (18, 1, .aload_n 0, 0, 0, .inl .null), (19, 3, .getfield 15, 6, 3, .inl .null), (22, 1, .iconst 0, 0, 0, .inl (.int 0)), (23, 3, .invokestatic 42, 310, 2, .inr (0, 0, 0)), (26, 1, .aload_n 0, 0, 0, .inl .null), (27, 3, .getfield 18, 6, 4, .inl .null), (30, 1, .iconst 0, 0, 0, .inl (.int 0)), (31, 3, .invokestatic 42, 310, 2, .inr (0, 0, 0)), (34, 1, .aload_n 0, 0, 0, .inl .null), (35, 1, .iconst 0, 0, 0, .inl (.int 0)), (36, 3, .putfield 48, 6, 9, .inl .null), (39, 1, .aload_n 0, 0, 0, .inl .null), (40, 3, .invokevirtual 51, 48, 97, .inr (0, 0, 0)), (43, 1, .return_, 0, 0, .inl .null)]
def cd_X6_become : List gE := [(0, 1, .aload_n 0, 0, 0, .inl .null), (1, 1, .aload_n 1, 1, 0, .inl .null), (2, 3, .getfield 35, 6, 0, .inl .null), (5, 3, .putfield 35, 6, 0, .inl .null), (8, 1, .aload_n 0, 0, 0, .inl .null), (9, 1, .aload_n 1, 1, 0, .inl .null), (10, 3, .getfield 39, 6, 1, .inl .null), (13, 3, .putfield 39, 6, 1, .inl .null), (16, 1, .aload_n 1, 1, 0, .inl .null), (17, 3, .getfield 9, 6, 2, .inl .null), (20, 1, .iconst 0, 0, 0, .inl (.int 0)), (21, 1, .aload_n 0, 0, 0, .inl .null), (22, 3, .getfield 9, 6, 2, .inl .null), (25, 1, .iconst 0, 0, 0, .inl (.int 0)), (26, 1, .aload_n 0, 0, 0, .inl .null), (27, 3, .getfield 9, 6, 2, .inl .null), (30, 1, .arraylength, 0, 0, .inl .null), (31, 3, .invokestatic 54, 0, 9, .inl .null), (34, 1, .aload_n 1, 1, 0, .inl .null), (35, 3, .getfield 15, 6, 3, .inl .null), (38, 1, .iconst 0, 0, 0, .inl (.int 0)), (39, 1, .aload_n 0, 0, 0, .inl .null), (40, 3, .getfield 15, 6, 3, .inl .null), (43, 1, .iconst 0, 0, 0, .inl (.int 0)), (44, 1, .aload_n 0, 0, 0, .inl .null), (45, 3, .getfield 15, 6, 3, .inl .null), (48, 1, .arraylength, 0, 0, .inl .null), (49, 3, .invokestatic 54, 0, 9, .inl .null), (52, 1, .aload_n 1, 1, 0, .inl .null), (53, 3, .getfield 18, 6, 4, .inl .null), (56, 1, .iconst 0, 0, 0, .inl (.int 0)), (57, 1, .aload_n 0, 0, 0, .inl .null), (58, 3, .getfield 18, 6, 4, .inl .null), (61, 1, .iconst 0, 0, 0, .inl (.int 0)), (62, 1, .aload_n 0, 0, 0, .inl .null), (63, 3, .getfield 18, 6, 4, .inl .null), (66, 1, .arraylength, 0, 0, .inl .null), (67, 3, .invokestatic 54, 0, 9, .inl .null), (70, 1, .aload_n 0, 0, 0, .inl .null), (71, 1, .aload_n 1, 1, 0, .inl .null), (72, 3, .getfield 60, 6, 5, .inl .null), (75, 3, .putfield 60, 6, 5, .inl .null), (78, 1, .aload_n 0, 0, 0, .inl .null), (79, 1, .aload_n 1, 1, 0, .inl .null), (80, 3, .getfield 21, 6, 6, .inl .null), (83, 3, .putfield 21, 6, 6, .inl .null), (86, 1, .aload_n 1, 1, 0, .inl .null), (87, 3, .getfield 25, 6, 7, .inl .null), (90, 1, .iconst 0, 0, 0, .inl (.int 0)), (91, 1, .aload_n 0, 0, 0, .inl .null), (92, 3, .getfield 25, 6, 7, .inl .null), (95, 1, .iconst 0, 0, 0, .inl (.int 0)), (96, 1, .aload_n 0, 0, 0, .inl .null), (97, 3, .getfield 25, 6, 7, .inl .null), (100, 1, .arraylength, 0, 0, .inl .null), (101, 3, .invokestatic 54, 0, 9, .inl .null), (104, 1, .aload_n 1, 1, 0, .inl .null), (105, 3, .getfield 29, 6, 8, .inl .null), (108, 1, .iconst 0, 0, 0, .inl (.int 0)), (109, 1, .aload_n 0, 0, 0, .inl .null), (110, 3, .getfield 29, 6, 8, .inl .null), (113, 1, .iconst 0, 0, 0, .inl (.int 0)), (114, 1, .aload_n 0, 0, 0, .inl .null), (115, 3, .getfield 29, 6, 8, .inl .null), (118, 1, .arraylength, 0, 0, .inl .null), (119, 3, .invokestatic 54, 0, 9, .inl .null), (122, 1, .aload_n 0, 0, 0, .inl .null), (123, 1, .aload_n 1, 1, 0, .inl .null), (124, 3, .getfield 48, 6, 9, .inl .null), (127, 3, .putfield 48, 6, 9, .inl .null), (130, 1, .aload_n 1, 1, 0, .inl .null), (131, 3, .getfield 32, 6, 10, .inl .null), (134, 1, .iconst 0, 0, 0, .inl (.int 0)), (135, 1, .aload_n 0, 0, 0, .inl .null), (136, 3, .getfield 32, 6, 10, .inl .null), (139, 1, .iconst 0, 0, 0, .inl (.int 0)), (140, 1, .aload_n 0, 0, 0, .inl .null), (141, 3, .getfield 32, 6, 10, .inl .null), (144, 1, .arraylength, 0, 0, .inl .null), (145, 3, .invokestatic 54, 0, 9, .inl .null), (148, 1, .return_, 0, 0, .inl .null)]
def cd_X6_along : List gE := [(0, 1, .iload_n 1, 1, 0, .inl .null), (1, 2, .bipush 7, 0, 0, .inl (.int 7)), (3, 1, .iadd, 0, 0, .inl .null), (4, 1, .iconst 1, 0, 0, .inl (.int 1)), (5, 1, .isub, 0, 0, .inl .null), (6, 1, .istore_n 2, 2, 0, .inl .null), (7, 1, .iload_n 2, 2, 0, .inl .null), (8, 3, .ifCond .lt 21, 29, 0, .inl .null), (11, 1, .iload_n 2, 2, 0, .inl .null), (12, 1, .aload_n 0, 0, 0, .inl .null), (13, 3, .getfield 9, 6, 2, .inl .null), (16, 1, .arraylength, 0, 0, .inl .null), (17, 3, .if_icmp .ge 12, 29, 0, .inl .null), (20, 1, .aload_n 0, 0, 0, .inl .null), (21, 3, .getfield 9, 6, 2, .inl .null), (24, 1, .iload_n 2, 2, 0, .inl .null), (25, 1, .iaload, 0, 0, .inl .null), (26, 3, .goto 4, 30, 0, .inl .null), (29, 1, .iconst 0, 0, 0, .inl (.int 0)), (30, 1, .ireturn, 0, 0, .inl .null)]
def cd_X6_putAlong : List gE := [(0, 1, .iload_n 1, 1, 0, .inl .null), (1, 2, .bipush 7, 0, 0, .inl (.int 7)), (3, 1, .iadd, 0, 0, .inl .null), (4, 1, .iconst 1, 0, 0, .inl (.int 1)), (5, 1, .isub, 0, 0, .inl .null), (6, 1, .istore_n 3, 3, 0, .inl .null), (7, 1, .iload_n 3, 3, 0, .inl .null), (8, 3, .ifCond .lt 19, 27, 0, .inl .null), (11, 1, .iload_n 3, 3, 0, .inl .null), (12, 1, .aload_n 0, 0, 0, .inl .null), (13, 3, .getfield 9, 6, 2, .inl .null), (16, 1, .arraylength, 0, 0, .inl .null), (17, 3, .if_icmp .ge 10, 27, 0, .inl .null), (20, 1, .aload_n 0, 0, 0, .inl .null), (21, 3, .getfield 9, 6, 2, .inl .null), (24, 1, .iload_n 3, 3, 0, .inl .null), (25, 1, .iload_n 2, 2, 0, .inl .null), (26, 1, .iastore, 0, 0, .inl .null), (27, 1, .return_, 0, 0, .inl .null)]
def cd_X6_beginRefinement : List gE := [(0, 1, .aload_n 0, 0, 0, .inl .null), (1, 1, .iconst 0, 0, 0, .inl (.int 0)), (2, 3, .putfield 60, 6, 5, .inl .null), (5, 1, .aload_n 0, 0, 0, .inl .null), (6, 1, .lconst 1, 0, 0, .inl (.long 1)), (7, 3, .putfield 21, 6, 6, .inl .null), (10, 1, .aload_n 0, 0, 0, .inl .null), (11, 3, .getfield 25, 6, 7, .inl .null), (14, 1, .lconst 0, 0, 0, .inl (.long 0)), (15, 3, .invokestatic 63, 309, 2, .inr (0, 0, 0)), (18, 1, .aload_n 0, 0, 0, .inl .null), (19, 3, .getfield 15, 6, 3, .inl .null), (22, 1, .iconst 0, 0, 0, .inl (.int 0)), (23, 1, .aload_n 0, 0, 0, .inl .null), (24, 3, .getfield 29, 6, 8, .inl .null), (27, 1, .iconst 0, 0, 0, .inl (.int 0)), (28, 1, .aload_n 0, 0, 0, .inl .null), (29, 3, .getfield 29, 6, 8, .inl .null), (32, 1, .arraylength, 0, 0, .inl .null), (33, 3, .invokestatic 54, 0, 9, .inl .null), (36, 1, .return_, 0, 0, .inl .null)]
def cd_X6_digitLimit : List gE := [(0, 1, .iconst 0, 0, 0, .inl (.int 0)), (1, 1, .istore_n 1, 1, 0, .inl .null), (2, 1, .aload_n 0, 0, 0, .inl .null), (3, 3, .getfield 39, 6, 1, .inl .null), (6, 1, .i2l, 0, 0, .inl .null), (7, 1, .lstore_n 2, 2, 0, .inl .null), (8, 1, .iload_n 1, 1, 0, .inl .null), (9, 2, .bipush 64, 0, 0, .inl (.int 64)), (11, 3, .if_icmp .ge 31, 42, 0, .inl .null), (14, 1, .lload_n 2, 2, 0, .inl .null), (15, 1, .lconst 1, 0, 0, .inl (.long 1)), (16, 1, .lcmp, 0, 0, .inl .null), (17, 3, .ifCond .le 25, 42, 0, .inl .null), (20, 1, .lload_n 2, 2, 0, .inl .null), (21, 3, .ldc2_w 66, 0, 0, .inl (.long 1000000000000)), (24, 1, .lcmp, 0, 0, .inl .null), (25, 3, .ifCond .gt 17, 42, 0, .inl .null), (28, 3, .iinc 1 1, 1, 0, .inl (.int 1)), (31, 1, .lload_n 2, 2, 0, .inl .null), (32, 1, .aload_n 0, 0, 0, .inl .null), (33, 3, .getfield 39, 6, 1, .inl .null), (36, 1, .i2l, 0, 0, .inl .null), (37, 1, .lmul, 0, 0, .inl .null), (38, 1, .lstore_n 2, 2, 0, .inl .null), (39, 3, .goto (-31), 8, 0, .inl .null), (42, 1, .iload_n 1, 1, 0, .inl .null), (43, 1, .ireturn, 0, 0, .inl .null)]
def cd_X6_digitOf : List gE := [(0, 1, .aload_n 0, 0, 0, .inl .null), (1, 3, .getfield 39, 6, 1, .inl .null), (4, 1, .iconst 1, 0, 0, .inl (.int 1)), (5, 3, .if_icmp .lt 16, 21, 0, .inl .null), (8, 1, .iload_n 2, 2, 0, .inl .null), (9, 3, .ifCond .lt 12, 21, 0, .inl .null), (12, 1, .iload_n 2, 2, 0, .inl .null), (13, 1, .aload_n 0, 0, 0, .inl .null), (14, 3, .getfield 25, 6, 7, .inl .null), (17, 1, .arraylength, 0, 0, .inl .null), (18, 3, .if_icmp .lt 5, 23, 0, .inl .null), (21, 1, .iconst 0, 0, 0, .inl (.int 0)), (22, 1, .ireturn, 0, 0, .inl .null), (23, 1, .aload_n 0, 0, 0, .inl .null), (24, 3, .getfield 25, 6, 7, .inl .null), (27, 1, .iload_n 2, 2, 0, .inl .null), (28, 1, .laload, 0, 0, .inl .null), (29, 1, .lstore_n 3, 3, 0, .inl .null), (30, 1, .iconst 0, 0, 0, .inl (.int 0)), (31, 2, .istore 5, 5, 0, .inl .null), (33, 2, .iload 5, 5, 0, .inl .null), (35, 1, .iload_n 1, 1, 0, .inl .null), (36, 3, .if_icmp .ge 17, 53, 0, .inl .null), (39, 1, .lload_n 3, 3, 0, .inl .null), (40, 1, .aload_n 0, 0, 0, .inl .null), (41, 3, .getfield 39, 6, 1, .inl .null), (44, 1, .i2l, 0, 0, .inl .null), (45, 1, .ldiv, 0, 0, .inl .null), (46, 1, .lstore_n 3, 3, 0, .inl .null), (47, 3, .iinc 5 1, 5, 0, .inl (.int 1)), (50, 3, .goto (-17), 33, 0, .inl .null), (53, 1, .lload_n 3, 3, 0, .inl .null), (54, 1, .aload_n 0, 0, 0, .inl .null), (55, 3, .getfield 39, 6, 1, .inl .null), (58, 1, .i2l, 0, 0, .inl .null), (59, 1, .lrem, 0, 0, .inl .null), (60, 1, .l2i, 0, 0, .inl .null), (61, 1, .ireturn, 0, 0, .inl .null)]
def cd_X6_enter : List gE := [(0, 1, .aload_n 0, 0, 0, .inl .null), (1, 3, .getfield 48, 6, 9, .inl .null), (4, 2, .bipush 30, 0, 0, .inl (.int 30)), (6, 3, .if_icmp .lt 4, 10, 0, .inl .null), (9, 1, .return_, 0, 0, .inl .null), (10, 1, .iconst 0, 0, 0, .inl (.int 0)), (11, 1, .istore_n 2, 2, 0, .inl .null), (12, 1, .iconst 0, 0, 0, .inl (.int 0)), (13, 1, .istore_n 3, 3, 0, .inl .null), (14, 1, .iload_n 3, 3, 0, .inl .null), (15, 1, .aload_n 0, 0, 0, .inl .null), (16, 3, .getfield 35, 6, 0, .inl .null), (19, 3, .if_icmp .ge 32, 51, 0, .inl .null), (22, 1, .iload_n 3, 3, 0, .inl .null), (23, 1, .aload_n 0, 0, 0, .inl .null), (24, 3, .getfield 29, 6, 8, .inl .null), (27, 1, .arraylength, 0, 0, .inl .null), (28, 3, .if_icmp .ge 23, 51, 0, .inl .null), (31, 1, .iload_n 2, 2, 0, .inl .null), (32, 1, .aload_n 0, 0, 0, .inl .null), (33, 3, .getfield 29, 6, 8, .inl .null), (36, 1, .iload_n 3, 3, 0, .inl .null), (37, 1, .iaload, 0, 0, .inl .null), (38, 3, .invokestatic 68, 305, 1, .inr (1, 0, 0)), (41, 3, .invokestatic 74, 307, 2, .inr (1, 0, 0)), (44, 1, .istore_n 2, 2, 0, .inl .null), (45, 3, .iinc 3 1, 3, 0, .inl (.int 1)), (48, 3, .goto (-34), 14, 0, .inl .null), (51, 1, .iconst 3, 0, 0, .inl (.int 3)), (52, 1, .aload_n 0, 0, 0, .inl .null), (53, 3, .getfield 48, 6, 9, .inl .null), (56, 1, .imul, 0, 0, .inl .null), (57, 1, .istore_n 3, 3, 0, .inl .null), (58, 1, .aload_n 0, 0, 0, .inl .null), (59, 3, .getfield 32, 6, 10, .inl .null), (62, 1, .iload_n 3, 3, 0, .inl .null), (63, 1, .aload_n 0, 0, 0, .inl .null), (64, 3, .getfield 60, 6, 5, .inl .null), (67, 1, .iastore, 0, 0, .inl .null), (68, 1, .aload_n 0, 0, 0, .inl .null), (69, 3, .getfield 32, 6, 10, .inl .null), (72, 1, .iload_n 3, 3, 0, .inl .null), (73, 1, .iconst 1, 0, 0, .inl (.int 1)), (74, 1, .iadd, 0, 0, .inl .null), (75, 1, .iload_n 2, 2, 0, .inl .null), (76, 1, .iastore, 0, 0, .inl .null), (77, 1, .aload_n 0, 0, 0, .inl .null), (78, 3, .getfield 32, 6, 10, .inl .null), (81, 1, .iload_n 3, 3, 0, .inl .null), (82, 1, .iconst 2, 0, 0, .inl (.int 2)), (83, 1, .iadd, 0, 0, .inl .null), (84, 1, .iload_n 1, 1, 0, .inl .null), (85, 3, .ifCond .eq 7, 92, 0, .inl .null), (88, 1, .iconst 1, 0, 0, .inl (.int 1)), (89, 3, .goto 4, 93, 0, .inl .null), (92, 1, .iconst 0, 0, 0, .inl (.int 0)), (93, 1, .iastore, 0, 0, .inl .null), (94, 1, .aload_n 0, 0, 0, .inl .null), (95, 1, .dup, 0, 0, .inl .null), (96, 3, .getfield 48, 6, 9, .inl .null), (99, 1, .iconst 1, 0, 0, .inl (.int 1)), (100, 1, .iadd, 0, 0, .inl .null), (101, 3, .putfield 48, 6, 9, .inl .null), (104, 1, .return_, 0, 0, .inl .null)]
def cd_X7_append : List gE := [(0, 1, .aload_n 0, 0, 0, .inl .null), (1, 3, .getfield 10, 3, 0, .inl .null), (4, 3, .getfield 73, 4, 1, .inl .null), (7, 3, .sipush 680, 0, 0, .inl (.int 680)), (10, 3, .if_icmp .le 5, 15, 0, .inl .null), (13, 1, .iconst (-1), 0, 0, .inl (.int (-1))), (14, 1, .ireturn, 0, 0, .inl .null), (15, 1, .aload_n 0, 0, 0, .inl .null), (16, 3, .getfield 10, 3, 0, .inl .null), (19, 1, .iload_n 1, 1, 0, .inl .null), (20, 3, .invokevirtual 77, 21, 66, .inr (0, 0, 0)), (23, 1, .aload_n 0, 0, 0, .inl .null), (24, 3, .getfield 10, 3, 0, .inl .null), (27, 1, .iload_n 2, 2, 0, .inl .null), (28, 3, .invokevirtual 77, 21, 66, .inr (0, 0, 0)), (31, 1, .aload_n 0, 0, 0, .inl .null), (32, 3, .getfield 10, 3, 0, .inl .null), (35, 1, .iload_n 3, 3, 0, .inl .null), (36, 3, .invokevirtual 77, 21, 66, .inr (0, 0, 0)), (39, 1, .aload_n 0, 0, 0, .inl .null), (40, 3, .getfield 10, 3, 0, .inl .null), (43, 2, .iload 4, 4, 0, .inl .null), (45, 3, .invokevirtual 77, 21, 66, .inr (0, 0, 0)), (48, 1, .aload_n 0, 0, 0, .inl .null), (49, 3, .getfield 10, 3, 0, .inl .null), (52, 2, .iload 5, 5, 0, .inl .null), (54, 3, .invokevirtual 77, 21, 66, .inr (0, 0, 0)), (57, 1, .aload_n 0, 0, 0, .inl .null), (58, 3, .getfield 10, 3, 0, .inl .null), (61, 3, .getfield 73, 4, 1, .inl .null), (64, 1, .ireturn, 0, 0, .inl .null)]
def cd_X7_load : List gE := [(0, 1, .iload_n 1, 1, 0, .inl .null), (1, 3, .ifCond .lt 14, 15, 0, .inl .null), (4, 1, .iload_n 1, 1, 0, .inl .null), (5, 1, .aload_n 0, 0, 0, .inl .null), (6, 3, .getfield 10, 3, 0, .inl .null), (9, 3, .getfield 73, 4, 1, .inl .null), (12, 3, .if_icmp .le 13, 25, 0, .inl .null), (15, 3, .new 81, 1, 1, .inl .null), (18, 1, .dup, 0, 0, .inl .null), (19, 2, .ldc 83, 0, 0, .inl .null), (21, 3, .invokespecial 85, 0, 0, .inl .null), (24, 1, .athrow, 0, 0, .inl .null), (25, 1, .aload_n 0, 0, 0, .inl .null), (26, 3, .getfield 10, 3, 0, .inl .null), (29, 1, .iload_n 1, 1, 0, .inl .null), (30, 3, .invokevirtual 88, 22, 66, .inr (1, 0, 0)), (33, 3, .ifCond .ne 13, 46, 0, .inl .null), (36, 3, .new 92, 1, 2, .inl .null), (39, 1, .dup, 0, 0, .inl .null), (40, 2, .ldc 94, 0, 0, .inl .null), (42, 3, .invokespecial 96, 0, 0, .inl .null), (45, 1, .athrow, 0, 0, .inl .null), (46, 1, .aload_n 0, 0, 0, .inl .null), (47, 3, .getfield 19, 3, 1, .inl .null), (50, 1, .aload_n 0, 0, 0, .inl .null), (51, 3, .getfield 10, 3, 0, .inl .null), (54, 3, .getfield 97, 4, 2, .inl .null), (57, 3, .invokevirtual 100, 45, 98, .inr (0, 0, 0)), (60, 1, .aload_n 0, 0, 0, .inl .null), (61, 3, .getfield 29, 3, 3, .inl .null), (64, 3, .invokevirtual 104, 20, 209, .inr (0, 0, 0)), (67, 1, .iconst 0, 0, 0, .inl (.int 0)), (68, 1, .istore_n 2, 2, 0, .inl .null), (69, 1, .iload_n 2, 2, 0, .inl .null), (70, 1, .iconst 2, 0, 0, .inl (.int 2)), (71, 3, .if_icmp .ge 16, 87, 0, .inl .null), (74, 1, .aload_n 0, 0, 0, .inl .null), (75, 3, .getfield 37, 3, 5, .inl .null), (78, 1, .iload_n 2, 2, 0, .inl .null), (79, 1, .iconst 0, 0, 0, .inl (.int 0)), (80, 1, .bastore, 0, 0, .inl .null), (81, 3, .iinc 2 1, 2, 0, .inl (.int 1)), (84, 3, .goto (-15), 69, 0, .inl .null), (87, 1, .aload_n 0, 0, 0, .inl .null), (88, 3, .getfield 19, 3, 1, .inl .null), (91, 3, .getfield 107, 6, 0, .inl .null), (94, 1, .ireturn, 0, 0, .inl .null)]
def cd_X7_parseError : List gE := [(0, 1, .aload_n 0, 0, 0, .inl .null), (1, 3, .getfield 10, 3, 0, .inl .null), (4, 3, .getfield 110, 4, 3, .inl .null), (7, 1, .ireturn, 0, 0, .inl .null)]
def cd_X7_errorPosition : List gE := [(0, 1, .aload_n 0, 0, 0, .inl .null), (1, 3, .getfield 10, 3, 0, .inl .null), (4, 3, .getfield 110, 4, 3, .inl .null), (7, 3, .ifCond .ne 7, 14, 0, .inl .null), (10, 1, .iconst (-1), 0, 0, .inl (.int (-1))), (11, 3, .goto 10, 21, 0, .inl .null), (14, 1, .aload_n 0, 0, 0, .inl .null), (15, 3, .getfield 10, 3, 0, .inl .null), (18, 3, .getfield 113, 4, 4, .inl .null), (21, 1, .ireturn, 0, 0, .inl .null)]
def cd_X7_size : List gE := [(0, 1, .aload_n 0, 0, 0, .inl .null), (1, 3, .getfield 19, 3, 1, .inl .null), (4, 3, .getfield 107, 6, 0, .inl .null), (7, 1, .ireturn, 0, 0, .inl .null)]
def cd_X7_prime : List gE := [(0, 1, .aload_n 0, 0, 0, .inl .null), (1, 3, .getfield 19, 3, 1, .inl .null), (4, 3, .getfield 116, 6, 1, .inl .null), (7, 1, .ireturn, 0, 0, .inl .null)]
def cd_X7_diagonal : List gE := [(0, 1, .aload_n 0, 0, 0, .inl .null), (1, 3, .invokevirtual 119, 110, 49, .inr (0, 1, 6)), (4, 1, .aload_n 0, 0, 0, .inl .null), (5, 1, .iload_n 1, 1, 0, .inl .null), (6, 3, .invokevirtual 122, 114, 50, .inr (0, 1, 6)), (9, 1, .aload_n 0, 0, 0, .inl .null), (10, 3, .getfield 19, 3, 1, .inl .null), (13, 1, .iload_n 1, 1, 0, .inl .null), (14, 3, .invokevirtual 125, 46, 98, .inr (1, 0, 0)), (17, 1, .ireturn, 0, 0, .inl .null)]
def cd_X7_entry : List gE := [(0, 1, .aload_n 0, 0, 0, .inl .null), (1, 3, .invokevirtual 119, 110, 49, .inr (0, 1, 6)), (4, 1, .aload_n 0, 0, 0, .inl .null), (5, 1, .iload_n 1, 1, 0, .inl .null), (6, 3, .invokevirtual 129, 111, 50, .inr (0, 1, 6)), (9, 1, .aload_n 0, 0, 0, .inl .null), (10, 1, .iload_n 2, 2, 0, .inl .null), (11, 3, .invokevirtual 129, 111, 50, .inr (0, 1, 6)), (14, 1, .aload_n 0, 0, 0, .inl .null), (15, 3, .getfield 19, 3, 1, .inl .null), (18, 1, .iload_n 1, 1, 0, .inl .null), (19, 1, .iload_n 2, 2, 0, .inl .null), (20, 1, .isub, 0, 0, .inl .null), (21, 3, .invokevirtual 125, 46, 98, .inr (1, 0, 0)), (24, 1, .ireturn, 0, 0, .inl .null)]
def cd_X7_side : List gE := [(0, 1, .aload_n 0, 0, 0, .inl .null), (1, 3, .invokevirtual 119, 110, 49, .inr (0, 1, 6)), (4, 1, .aload_n 0, 0, 0, .inl .null), (5, 1, .iload_n 1, 1, 0, .inl .null), (6, 3, .invokevirtual 129, 111, 50, .inr (0, 1, 6)), (9, 1, .aload_n 0, 0, 0, .inl .null), (10, 3, .getfield 19, 3, 1, .inl .null), (13, 3, .getfield 132, 6, 3, .inl .null), (16, 1, .iload_n 1, 1, 0, .inl .null), (17, 1, .iaload, 0, 0, .inl .null), (18, 1, .ireturn, 0, 0, .inl .null)]
def cd_X7_probe : List gE := [(0, 1, .aload_n 0, 0, 0, .inl .null), (1, 3, .invokevirtual 119, 110, 49, .inr (0, 1, 6)), (4, 1, .aload_n 0, 0, 0, .inl .null), (5, 1, .iload_n 1, 1, 0, .inl .null), (6, 3, .invokevirtual 129, 111, 50, .inr (0, 1, 6)), (9, 1, .aload_n 0, 0, 0, .inl .null), (10, 3, .getfield 19, 3, 1, .inl .null), (13, 3, .getfield 135, 6, 4, .inl .null), (16, 1, .iload_n 1, 1, 0, .inl .null), (17, 1, .iaload, 0, 0, .inl .null), (18, 1, .ireturn, 0, 0, .inl .null)]
def cd_X7_minor : List gE := [(0, 1, .aload_n 0, 0, 0, .inl .null), (1, 3, .invokevirtual 119, 110, 49, .inr (0, 1, 6)), (4, 1, .aload_n 0, 0, 0, .inl .null), (5, 1, .iload_n 1, 1, 0, .inl .null), (6, 3, .invokevirtual 138, 115, 50, .inr (0, 1, 6)), (9, 1, .aload_n 0, 0, 0, .inl .null), (10, 1, .iload_n 1, 1, 0, .inl .null), (11, 1, .aload_n 0, 0, 0, .inl .null), (12, 3, .getfield 19, 3, 1, .inl .null), (15, 3, .getfield 116, 6, 1, .inl .null), (18, 3, .invokevirtual 141, 122, 51, .inr (1, 0, 0)), (21, 1, .ireturn, 0, 0, .inl .null)]
def cd_X7_rank : List gE := [(0, 1, .aload_n 0, 0, 0, .inl .null), (1, 3, .invokevirtual 119, 110, 49, .inr (0, 1, 6)), (4, 1, .aload_n 0, 0, 0, .inl .null), (5, 3, .getfield 44, 3, 6, .inl .null), (8, 1, .aload_n 0, 0, 0, .inl .null), (9, 3, .getfield 19, 3, 1, .inl .null), (12, 1, .aload_n 0, 0, 0, .inl .null), (13, 3, .getfield 19, 3, 1, .inl .null), (16, 3, .getfield 107, 6, 0, .inl .null), (19, 1, .aload_n 0, 0, 0, .inl .null), (20, 3, .getfield 19, 3, 1, .inl .null), (23, 3, .getfield 116, 6, 1, .inl .null), (26, 1, .iconst 0, 0, 0, .inl (.int 0)), (27, 3, .invokevirtual 145, 6, 277, .inr (0, 0, 0)), (30, 1, .aload_n 0, 0, 0, .inl .null), (31, 3, .getfield 44, 3, 6, .inl .null), (34, 1, .aload_n 0, 0, 0, .inl .null), (35, 3, .getfield 19, 3, 1, .inl .null), (38, 3, .getfield 107, 6, 0, .inl .null), (41, 3, .invokevirtual 149, 11, 274, .inr (1, 0, 0)), (44, 1, .ireturn, 0, 0, .inl .null)]
def cd_X7_isRegular : List gE := [(0, 1, .aload_n 0, 0, 0, .inl .null), (1, 3, .invokevirtual 119, 110, 49, .inr (0, 1, 6)), (4, 1, .aload_n 0, 0, 0, .inl .null), (5, 1, .aload_n 0, 0, 0, .inl .null), (6, 3, .getfield 19, 3, 1, .inl .null), (9, 3, .getfield 107, 6, 0, .inl .null), (12, 1, .aload_n 0, 0, 0, .inl .null), (13, 3, .getfield 19, 3, 1, .inl .null), (16, 3, .getfield 116, 6, 1, .inl .null), (19, 3, .invokevirtual 141, 122, 51, .inr (1, 0, 0)), (22, 3, .ifCond .eq 7, 29, 0, .inl .null), (25, 1, .iconst 1, 0, 0, .inl (.int 1)), (26, 3, .goto 4, 30, 0, .inl .null), (29, 1, .iconst 0, 0, 0, .inl (.int 0)), (30, 1, .ireturn, 0, 0, .inl .null)]
def cd_X7_steps : List gE := [(0, 1, .aload_n 0, 0, 0, .inl .null), (1, 3, .invokevirtual 119, 110, 49, .inr (0, 1, 6)), (4, 1, .aload_n 0, 0, 0, .inl .null), (5, 3, .invokevirtual 152, 123, 49, .inr (1, 0, 0)), (8, 1, .ireturn, 0, 0, .inl .null)]
def cd_X7_stepEnd : List gE := [(0, 1, .aload_n 0, 0, 0, .inl .null), (1, 3, .invokevirtual 119, 110, 49, .inr (0, 1, 6)), (4, 1, .aload_n 0, 0, 0, .inl .null), (5, 1, .iload_n 1, 1, 0, .inl .null), (6, 3, .invokevirtual 156, 124, 50, .inr (1, 1, 6)), (9, 1, .ireturn, 0, 0, .inl .null)]
def cd_X7_longestJump : List gE := [(0, 1, .aload_n 0, 0, 0, .inl .null), (1, 3, .invokevirtual 119, 110, 49, .inr (0, 1, 6)), (4, 1, .aload_n 0, 0, 0, .inl .null), (5, 3, .invokevirtual 152, 123, 49, .inr (1, 0, 0)), (8, 1, .istore_n 1, 1, 0, .inl .null), (9, 1, .iconst 0, 0, 0, .inl (.int 0)), (10, 1, .istore_n 2, 2, 0, .inl .null), (11, 1, .iconst 1, 0, 0, .inl (.int 1)), (12, 1, .istore_n 3, 3, 0, .inl .null), (13, 1, .iload_n 3, 3, 0, .inl .null), (14, 1, .iload_n 1, 1, 0, .inl .null), (15, 3, .if_icmp .gt 29, 44, 0, .inl .null), (18, 1, .iload_n 2, 2, 0, .inl .null), (19, 1, .aload_n 0, 0, 0, .inl .null), (20, 3, .getfield 69, 3, 10, .inl .null), (23, 1, .iload_n 3, 3, 0, .inl .null), (24, 1, .iaload, 0, 0, .inl .null), (25, 1, .aload_n 0, 0, 0, .inl .null), (26, 3, .getfield 69, 3, 10, .inl .null), (29, 1, .iload_n 3, 3, 0, .inl .null), (30, 1, .iconst 1, 0, 0, .inl (.int 1)), (31, 1, .isub, 0, 0, .inl .null), (32, 1, .iaload, 0, 0, .inl .null), (33, 1, .isub, 0, 0, .inl .null), (34, 3, .invokestatic 159, 307, 2, .inr (1, 0, 0)), (37, 1, .istore_n 2, 2, 0, .inl .null), (38, 3, .iinc 3 1, 3, 0, .inl (.int 1)), (41, 3, .goto (-28), 13, 0, .inl .null), (44, 1, .iload_n 2, 2, 0, .inl .null), (45, 1, .ireturn, 0, 0, .inl .null)]
def cd_X7_tail : List gE := [(0, 1, .aload_n 0, 0, 0, .inl .null), (1, 3, .invokevirtual 119, 110, 49, .inr (0, 1, 6)), (4, 1, .aload_n 0, 0, 0, .inl .null), (5, 3, .getfield 19, 3, 1, .inl .null), (8, 3, .getfield 107, 6, 0, .inl .null), (11, 1, .aload_n 0, 0, 0, .inl .null), (12, 3, .getfield 69, 3, 10, .inl .null), (15, 1, .aload_n 0, 0, 0, .inl .null), (16, 3, .invokevirtual 152, 123, 49, .inr (1, 0, 0)), (19, 1, .iaload, 0, 0, .inl .null), (20, 1, .isub, 0, 0, .inl .null), (21, 1, .ireturn, 0, 0, .inl .null)]
def cd_X7_regularPrimes : List gE := [(0, 1, .aload_n 0, 0, 0, .inl .null), (1, 3, .invokevirtual 119, 110, 49, .inr (0, 1, 6)), (4, 1, .iconst 0, 0, 0, .inl (.int 0)), (5, 1, .istore_n 1, 1, 0, .inl .null), (6, 1, .iconst 0, 0, 0, .inl (.int 0)), (7, 1, .istore_n 2, 2, 0, .inl .null), (8, 1, .iload_n 2, 2, 0, .inl .null), (9, 3, .getstatic 164, 0, 0, .inr (1, 0, 0)), (12, 1, .arraylength, 0, 0, .inl .null), (13, 3, .if_icmp .ge 34, 47, 0, .inl .null), (16, 1, .aload_n 0, 0, 0, .inl .null), (17, 1, .aload_n 0, 0, 0, .inl .null), (18, 3, .getfield 19, 3, 1, .inl .null), (21, 3, .getfield 107, 6, 0, .inl .null), (24, 3, .getstatic 164, 0, 0, .inr (1, 0, 0)), (27, 1, .iload_n 2, 2, 0, .inl .null), (28, 1, .iaload, 0, 0, .inl .null), (29, 3, .invokevirtual 141, 122, 51, .inr (1, 0, 0)), (32, 3, .ifCond .eq 9, 41, 0, .inl .null), (35, 1, .iload_n 1, 1, 0, .inl .null), (36, 1, .iconst 1, 0, 0, .inl (.int 1)), (37, 1, .iload_n 2, 2, 0, .inl .null), (38, 1, .ishl, 0, 0, .inl .null), (39, 1, .ior, 0, 0, .inl .null), (40, 1, .istore_n 1, 1, 0, .inl .null), (41, 3, .iinc 2 1, 2, 0, .inl (.int 1)), (44, 3, .goto (-36), 8, 0, .inl .null), (47, 1, .iload_n 1, 1, 0, .inl .null), (48, 1, .ireturn, 0, 0, .inl .null)]
def cd_X7_minorIf : List gE := [(0, 1, .aload_n 0, 0, 0, .inl .null), (1, 3, .invokevirtual 119, 110, 49, .inr (0, 1, 6)), (4, 1, .aload_n 0, 0, 0, .inl .null), (5, 1, .iload_n 1, 1, 0, .inl .null), (6, 3, .invokevirtual 122, 114, 50, .inr (0, 1, 6)), (9, 1, .aload_n 0, 0, 0, .inl .null), (10, 1, .iload_n 3, 3, 0, .inl .null), (11, 3, .invokevirtual 138, 115, 50, .inr (0, 1, 6)), (14, 1, .iload_n 2, 2, 0, .inl .null), (15, 2, .bipush 50, 0, 0, .inl (.int 50)), (17, 3, .invokestatic 167, 117, 2, .inr (0, 1, 6)), (20, 1, .aload_n 0, 0, 0, .inl .null), (21, 3, .getfield 23, 3, 2, .inl .null), (24, 1, .aload_n 0, 0, 0, .inl .null), (25, 3, .getfield 19, 3, 1, .inl .null), (28, 3, .invokevirtual 100, 45, 98, .inr (0, 0, 0)), (31, 1, .aload_n 0, 0, 0, .inl .null), (32, 3, .getfield 23, 3, 2, .inl .null), (35, 1, .iload_n 1, 1, 0, .inl .null), (36, 1, .iload_n 2, 2, 0, .inl .null), (37, 3, .invokevirtual 171, 47, 99, .inr (0, 0, 0)), (40, 1, .aload_n 0, 0, 0, .inl .null), (41, 3, .getfield 44, 3, 6, .inl .null), (44, 1, .aload_n 0, 0, 0, .inl .null), (45, 3, .getfield 23, 3, 2, .inl .null), (48, 1, .iload_n 3, 3, 0, .inl .null), (49, 1, .aload_n 0, 0, 0, .inl .null), (50, 3, .getfield 23, 3, 2, .inl .null), (53, 3, .getfield 116, 6, 1, .inl .null), (56, 1, .iconst 0, 0, 0, .inl (.int 0)), (57, 3, .invokevirtual 145, 6, 277, .inr (0, 0, 0)), (60, 1, .aload_n 0, 0, 0, .inl .null), (61, 3, .getfield 44, 3, 6, .inl .null), (64, 1, .iload_n 3, 3, 0, .inl .null), (65, 3, .invokevirtual 149, 11, 274, .inr (1, 0, 0)), (68, 1, .pop, 0, 0, .inl .null), (69, 1, .aload_n 0, 0, 0, .inl .null), (70, 3, .getfield 44, 3, 6, .inl .null), (73, 3, .invokevirtual 174, 10, 273, .inr (1, 0, 0)), (76, 1, .ireturn, 0, 0, .inl .null)]
def cd_X7_schur : List gE := [(0, 1, .aload_n 0, 0, 0, .inl .null), (1, 3, .invokevirtual 119, 110, 49, .inr (0, 1, 6)), (4, 1, .aload_n 0, 0, 0, .inl .null), (5, 1, .iload_n 1, 1, 0, .inl .null), (6, 3, .invokevirtual 156, 124, 50, .inr (1, 1, 6)), (9, 2, .istore 4, 4, 0, .inl .null), (11, 1, .aload_n 0, 0, 0, .inl .null), (12, 2, .iload 4, 4, 0, .inl .null), (14, 1, .iload_n 2, 2, 0, .inl .null), (15, 3, .invokevirtual 177, 112, 51, .inr (0, 1, 6)), (18, 1, .aload_n 0, 0, 0, .inl .null), (19, 2, .iload 4, 4, 0, .inl .null), (21, 1, .iload_n 3, 3, 0, .inl .null), (22, 3, .invokevirtual 177, 112, 51, .inr (0, 1, 6)), (25, 1, .aload_n 0, 0, 0, .inl .null), (26, 2, .iload 4, 4, 0, .inl .null), (28, 3, .invokevirtual 180, 125, 50, .inr (0, 0, 0)), (31, 1, .aload_n 0, 0, 0, .inl .null), (32, 3, .getfield 44, 3, 6, .inl .null), (35, 1, .iload_n 2, 2, 0, .inl .null), (36, 1, .iload_n 3, 3, 0, .inl .null), (37, 3, .invokevirtual 183, 8, 275, .inr (1, 0, 0)), (40, 1, .ireturn, 0, 0, .inl .null)]
def cd_X7_displacement : List gE := [(0, 1, .aload_n 0, 0, 0, .inl .null), (1, 3, .invokevirtual 119, 110, 49, .inr (0, 1, 6)), (4, 1, .aload_n 0, 0, 0, .inl .null), (5, 1, .iload_n 1, 1, 0, .inl .null), (6, 3, .invokevirtual 156, 124, 50, .inr (1, 1, 6)), (9, 2, .istore 4, 4, 0, .inl .null), (11, 1, .aload_n 0, 0, 0, .inl .null), (12, 2, .iload 4, 4, 0, .inl .null), (14, 1, .iload_n 2, 2, 0, .inl .null), (15, 3, .invokevirtual 177, 112, 51, .inr (0, 1, 6)), (18, 1, .aload_n 0, 0, 0, .inl .null), (19, 2, .iload 4, 4, 0, .inl .null), (21, 1, .iload_n 3, 3, 0, .inl .null), (22, 3, .invokevirtual 177, 112, 51, .inr (0, 1, 6)), (25, 1, .aload_n 0, 0, 0, .inl .null), (26, 2, .iload 4, 4, 0, .inl .null), (28, 3, .invokevirtual 180, 125, 50, .inr (0, 0, 0)), (31, 1, .aload_n 0, 0, 0, .inl .null), (32, 3, .getfield 44, 3, 6, .inl .null), (35, 2, .iload 4, 4, 0, .inl .null), (37, 3, .invokevirtual 186, 17, 274, .inr (0, 0, 0)), (40, 1, .aload_n 0, 0, 0, .inl .null), (41, 3, .getfield 44, 3, 6, .inl .null), (44, 1, .iload_n 2, 2, 0, .inl .null), (45, 1, .iload_n 3, 3, 0, .inl .null), (46, 3, .invokevirtual 183, 8, 275, .inr (1, 0, 0)), (49, 1, .ireturn, 0, 0, .inl .null)]
def cd_X7_generators : List gE := [(0, 1, .aload_n 0, 0, 0, .inl .null), (1, 3, .invokevirtual 119, 110, 49, .inr (0, 1, 6)), (4, 1, .aload_n 0, 0, 0, .inl .null), (5, 1, .aload_n 0, 0, 0, .inl .null), (6, 1, .iload_n 1, 1, 0, .inl .null), (7, 3, .invokevirtual 156, 124, 50, .inr (1, 1, 6)), (10, 3, .invokevirtual 189, 126, 50, .inr (1, 0, 0)), (13, 1, .ireturn, 0, 0, .inl .null)]
def cd_X7_generator : List gE := [(0, 1, .aload_n 0, 0, 0, .inl .null), (1, 3, .invokevirtual 119, 110, 49, .inr (0, 1, 6)), (4, 1, .aload_n 0, 0, 0, .inl .null), (5, 1, .iload_n 1, 1, 0, .inl .null), (6, 3, .invokevirtual 156, 124, 50, .inr (1, 1, 6)), (9, 2, .istore 5, 5, 0, .inl .null), (11, 1, .aload_n 0, 0, 0, .inl .null), (12, 2, .iload 5, 5, 0, .inl .null), (14, 1, .iload_n 3, 3, 0, .inl .null), (15, 3, .invokevirtual 177, 112, 51, .inr (0, 1, 6)), (18, 1, .iload_n 2, 2, 0, .inl .null), (19, 3, .ifCond .lt 13, 32, 0, .inl .null), (22, 1, .iload_n 2, 2, 0, .inl .null), (23, 1, .aload_n 0, 0, 0, .inl .null), (24, 2, .iload 5, 5, 0, .inl .null), (26, 3, .invokevirtual 189, 126, 50, .inr (1, 0, 0)), (29, 3, .if_icmp .lt 13, 42, 0, .inl .null), (32, 3, .new 81, 1, 1, .inl .null), (35, 1, .dup, 0, 0, .inl .null), (36, 2, .ldc 192, 0, 0, .inl .null), (38, 3, .invokespecial 85, 0, 0, .inl .null), (41, 1, .athrow, 0, 0, .inl .null), (42, 1, .aload_n 0, 0, 0, .inl .null), (43, 3, .getfield 51, 3, 7, .inl .null), (46, 1, .iload_n 2, 2, 0, .inl .null), (47, 1, .iload_n 3, 3, 0, .inl .null), (48, 2, .iload 4, 4, 0, .inl .null), (50, 3, .invokevirtual 194, 40, 324, .inr (1, 0, 0)), (53, 1, .ireturn, 0, 0, .inl .null)]
def cd_X7_solution : List gE := [(0, 1, .aload_n 0, 0, 0, .inl .null), (1, 3, .invokevirtual 119, 110, 49, .inr (0, 1, 6)), (4, 1, .aload_n 0, 0, 0, .inl .null), (5, 1, .iload_n 1, 1, 0, .inl .null), (6, 3, .invokevirtual 129, 111, 50, .inr (0, 1, 6)), (9, 1, .aload_n 0, 0, 0, .inl .null), (10, 3, .invokevirtual 198, 127, 49, .inr (1, 0, 0)), (13, 1, .aload_n 0, 0, 0, .inl .null), (14, 3, .getfield 19, 3, 1, .inl .null), (17, 3, .getfield 107, 6, 0, .inl .null), (20, 3, .if_icmp .ge 13, 33, 0, .inl .null), (23, 3, .new 92, 1, 2, .inl .null), (26, 1, .dup, 0, 0, .inl .null), (27, 2, .ldc 201, 0, 0, .inl .null), (29, 3, .invokespecial 96, 0, 0, .inl .null), (32, 1, .athrow, 0, 0, .inl .null), (33, 1, .aload_n 0, 0, 0, .inl .null), (34, 3, .getfield 44, 3, 6, .inl .null), (37, 1, .iload_n 1, 1, 0, .inl .null), (38, 1, .aload_n 0, 0, 0, .inl .null), (39, 3, .getfield 19, 3, 1, .inl .null), (42, 3, .getfield 107, 6, 0, .inl .null), (45, 3, .invokevirtual 183, 8, 275, .inr (1, 0, 0)), (48, 1, .ireturn, 0, 0, .inl .null)]
def cd_X7_inverse : List gE := [(0, 1, .aload_n 0, 0, 0, .inl .null), (1, 3, .invokevirtual 119, 110, 49, .inr (0, 1, 6)), (4, 1, .aload_n 0, 0, 0, .inl .null), (5, 1, .iload_n 1, 1, 0, .inl .null), (6, 3, .invokevirtual 129, 111, 50, .inr (0, 1, 6)), (9, 1, .aload_n 0, 0, 0, .inl .null), (10, 1, .iload_n 2, 2, 0, .inl .null), (11, 3, .invokevirtual 129, 111, 50, .inr (0, 1, 6)), (14, 1, .aload_n 0, 0, 0, .inl .null), (15, 3, .invokevirtual 203, 119, 49, .inr (0, 1, 6)), (18, 1, .aload_n 0, 0, 0, .inl .null), (19, 3, .getfield 65, 3, 9, .inl .null), (22, 1, .iload_n 1, 1, 0, .inl .null), (23, 1, .iload_n 2, 2, 0, .inl .null), (24, 3, .invokevirtual 206, 36, 451, .inr (1, 0, 0)), (27, 1, .ireturn, 0, 0, .inl .null)]
def cd_X7_kernel : List gE := [(0, 1, .aload_n 0, 0, 0, .inl .null), (1, 3, .invokevirtual 119, 110, 49, .inr (0, 1, 6)), (4, 1, .aload_n 0, 0, 0, .inl .null), (5, 1, .iload_n 1, 1, 0, .inl .null), (6, 3, .invokevirtual 129, 111, 50, .inr (0, 1, 6)), (9, 1, .aload_n 0, 0, 0, .inl .null), (10, 3, .getfield 19, 3, 1, .inl .null), (13, 3, .getfield 107, 6, 0, .inl .null), (16, 1, .istore_n 2, 2, 0, .inl .null), (17, 1, .aload_n 0, 0, 0, .inl .null), (18, 3, .getfield 44, 3, 6, .inl .null), (21, 1, .aload_n 0, 0, 0, .inl .null), (22, 3, .getfield 19, 3, 1, .inl .null), (25, 1, .iload_n 2, 2, 0, .inl .null), (26, 1, .aload_n 0, 0, 0, .inl .null), (27, 3, .getfield 19, 3, 1, .inl .null), (30, 3, .getfield 116, 6, 1, .inl .null), (33, 1, .iconst 0, 0, 0, .inl (.int 0)), (34, 3, .invokevirtual 145, 6, 277, .inr (0, 0, 0)), (37, 1, .aload_n 0, 0, 0, .inl .null), (38, 3, .getfield 44, 3, 6, .inl .null), (41, 1, .iload_n 2, 2, 0, .inl .null), (42, 3, .invokevirtual 149, 11, 274, .inr (1, 0, 0)), (45, 1, .iload_n 2, 2, 0, .inl .null), (46, 3, .if_icmp .ne 13, 59, 0, .inl .null), (49, 3, .new 92, 1, 2, .inl .null), (52, 1, .dup, 0, 0, .inl .null), (53, 2, .ldc 209, 0, 0, .inl .null), (55, 3, .invokespecial 96, 0, 0, .inl .null), (58, 1, .athrow, 0, 0, .inl .null), (59, 1, .aload_n 0, 0, 0, .inl .null), (60, 3, .getfield 44, 3, 6, .inl .null), (63, 1, .iload_n 1, 1, 0, .inl .null), (64, 3, .invokevirtual 211, 16, 274, .inr (1, 0, 0)), (67, 1, .ireturn, 0, 0, .inl .null)]
def cd_X7_isSolvable : List gE := [(0, 1, .aload_n 0, 0, 0, .inl .null), (1, 3, .invokevirtual 119, 110, 49, .inr (0, 1, 6)), (4, 1, .aload_n 0, 0, 0, .inl .null), (5, 3, .invokevirtual 198, 127, 49, .inr (1, 0, 0)), (8, 1, .istore_n 1, 1, 0, .inl .null), (9, 1, .iload_n 1, 1, 0, .inl .null), (10, 1, .istore_n 2, 2, 0, .inl .null), (11, 1, .iload_n 2, 2, 0, .inl .null), (12, 1, .aload_n 0, 0, 0, .inl .null), (13, 3, .getfield 19, 3, 1, .inl .null), (16, 3, .getfield 107, 6, 0, .inl .null), (19, 3, .if_icmp .ge 29, 48, 0, .inl .null), (22, 1, .aload_n 0, 0, 0, .inl .null), (23, 3, .getfield 44, 3, 6, .inl .null), (26, 1, .iload_n 2, 2, 0, .inl .null), (27, 1, .aload_n 0, 0, 0, .inl .null), (28, 3, .getfield 19, 3, 1, .inl .null), (31, 3, .getfield 107, 6, 0, .inl .null), (34, 3, .invokevirtual 183, 8, 275, .inr (1, 0, 0)), (37, 3, .ifCond .eq 5, 42, 0, .inl .null), (40, 1, .iconst 0, 0, 0, .inl (.int 0)), (41, 1, .ireturn, 0, 0, .inl .null), (42, 3, .iinc 2 1, 2, 0, .inl (.int 1)), (45, 3, .goto (-34), 11, 0, .inl .null), (48, 1, .iconst 1, 0, 0, .inl (.int 1)), (49, 1, .ireturn, 0, 0, .inl .null)]
def cd_X7_digits : List gE := [(0, 1, .aload_n 0, 0, 0, .inl .null), (1, 3, .invokevirtual 119, 110, 49, .inr (0, 1, 6)), (4, 1, .aload_n 0, 0, 0, .inl .null), (5, 3, .getfield 19, 3, 1, .inl .null), (8, 3, .getfield 214, 6, 5, .inl .null), (11, 1, .ireturn, 0, 0, .inl .null)]
def cd_X7_digit : List gE := [(0, 1, .aload_n 0, 0, 0, .inl .null), (1, 3, .invokevirtual 119, 110, 49, .inr (0, 1, 6)), (4, 1, .aload_n 0, 0, 0, .inl .null), (5, 1, .iload_n 2, 2, 0, .inl .null), (6, 3, .invokevirtual 129, 111, 50, .inr (0, 1, 6)), (9, 1, .iload_n 1, 1, 0, .inl .null), (10, 3, .ifCond .lt 14, 24, 0, .inl .null), (13, 1, .iload_n 1, 1, 0, .inl .null), (14, 1, .aload_n 0, 0, 0, .inl .null), (15, 3, .getfield 19, 3, 1, .inl .null), (18, 3, .getfield 214, 6, 5, .inl .null), (21, 3, .if_icmp .lt 13, 34, 0, .inl .null), (24, 3, .new 81, 1, 1, .inl .null), (27, 1, .dup, 0, 0, .inl .null), (28, 2, .ldc 220, 0, 0, .inl .null), (30, 3, .invokespecial 85, 0, 0, .inl .null), (33, 1, .athrow, 0, 0, .inl .null), (34, 1, .aload_n 0, 0, 0, .inl .null), (35, 3, .getfield 19, 3, 1, .inl .null), (38, 1, .iload_n 1, 1, 0, .inl .null), (39, 1, .iload_n 2, 2, 0, .inl .null), (40, 3, .invokevirtual 222, 50, 99, .inr (1, 0, 0)), (43, 1, .ireturn, 0, 0, .inl .null)]
def cd_X7_residual : List gE := [(0, 1, .aload_n 0, 0, 0, .inl .null), (1, 3, .invokevirtual 119, 110, 49, .inr (0, 1, 6)), (4, 1, .aload_n 0, 0, 0, .inl .null), (5, 1, .iload_n 1, 1, 0, .inl .null), (6, 3, .invokevirtual 129, 111, 50, .inr (0, 1, 6)), (9, 1, .aload_n 0, 0, 0, .inl .null), (10, 3, .getfield 19, 3, 1, .inl .null), (13, 3, .getfield 225, 6, 8, .inl .null), (16, 1, .iload_n 1, 1, 0, .inl .null), (17, 1, .iaload, 0, 0, .inl .null), (18, 1, .ireturn, 0, 0, .inl .null)]
def cd_X7_value : List gE := [(0, 1, .aload_n 0, 0, 0, .inl .null), (1, 3, .invokevirtual 119, 110, 49, .inr (0, 1, 6)), (4, 1, .aload_n 0, 0, 0, .inl .null), (5, 1, .iload_n 1, 1, 0, .inl .null), (6, 3, .invokevirtual 129, 111, 50, .inr (0, 1, 6)), (9, 1, .aload_n 0, 0, 0, .inl .null), (10, 3, .getfield 19, 3, 1, .inl .null), (13, 3, .getfield 228, 6, 7, .inl .null), (16, 1, .iload_n 1, 1, 0, .inl .null), (17, 1, .laload, 0, 0, .inl .null), (18, 1, .lreturn, 0, 0, .inl .null)]
def cd_X7_numerator : List gE := [(0, 1, .aload_n 0, 0, 0, .inl .null), (1, 3, .invokevirtual 119, 110, 49, .inr (0, 1, 6)), (4, 1, .aload_n 0, 0, 0, .inl .null), (5, 1, .iload_n 1, 1, 0, .inl .null), (6, 3, .invokevirtual 129, 111, 50, .inr (0, 1, 6)), (9, 1, .aload_n 0, 0, 0, .inl .null), (10, 1, .iload_n 1, 1, 0, .inl .null), (11, 3, .invokevirtual 238, 118, 50, .inr (0, 1, 6)), (14, 1, .aload_n 0, 0, 0, .inl .null), (15, 3, .getfield 58, 3, 8, .inl .null), (18, 3, .getfield 241, 25, 0, .inl .null), (21, 1, .iload_n 1, 1, 0, .inl .null), (22, 1, .laload, 0, 0, .inl .null), (23, 1, .l2i, 0, 0, .inl .null), (24, 1, .ireturn, 0, 0, .inl .null)]
def cd_X7_product : List gE := [(0, 1, .aload_n 0, 0, 0, .inl .null), (1, 3, .invokevirtual 119, 110, 49, .inr (0, 1, 6)), (4, 1, .aload_n 0, 0, 0, .inl .null), (5, 1, .iload_n 1, 1, 0, .inl .null), (6, 3, .invokevirtual 129, 111, 50, .inr (0, 1, 6)), (9, 1, .aload_n 0, 0, 0, .inl .null), (10, 1, .iload_n 1, 1, 0, .inl .null), (11, 3, .invokevirtual 261, 128, 50, .inr (1, 0, 0)), (14, 1, .ireturn, 0, 0, .inl .null)]
def cd_X7_circulant : List gE := [(0, 1, .aload_n 0, 0, 0, .inl .null), (1, 3, .invokevirtual 119, 110, 49, .inr (0, 1, 6)), (4, 1, .aload_n 0, 0, 0, .inl .null), (5, 1, .iload_n 1, 1, 0, .inl .null), (6, 3, .invokevirtual 264, 113, 50, .inr (0, 1, 6)), (9, 1, .aload_n 0, 0, 0, .inl .null), (10, 1, .iload_n 2, 2, 0, .inl .null), (11, 3, .invokevirtual 264, 113, 50, .inr (0, 1, 6)), (14, 1, .aload_n 0, 0, 0, .inl .null), (15, 1, .iload_n 1, 1, 0, .inl .null), (16, 1, .iload_n 2, 2, 0, .inl .null), (17, 1, .isub, 0, 0, .inl .null), (18, 3, .invokevirtual 267, 129, 50, .inr (1, 0, 0)), (21, 1, .ireturn, 0, 0, .inl .null)]
def cd_X7_wrapped : List gE := [(0, 1, .aload_n 0, 0, 0, .inl .null), (1, 3, .invokevirtual 119, 110, 49, .inr (0, 1, 6)), (4, 1, .aload_n 0, 0, 0, .inl .null), (5, 1, .iload_n 1, 1, 0, .inl .null), (6, 3, .invokevirtual 264, 113, 50, .inr (0, 1, 6)), (9, 1, .iconst 0, 0, 0, .inl (.int 0)), (10, 1, .istore_n 2, 2, 0, .inl .null), (11, 1, .iconst 0, 0, 0, .inl (.int 0)), (12, 1, .istore_n 3, 3, 0, .inl .null), (13, 1, .iload_n 3, 3, 0, .inl .null), (14, 1, .aload_n 0, 0, 0, .inl .null), (15, 3, .getfield 19, 3, 1, .inl .null), (18, 3, .getfield 107, 6, 0, .inl .null), (21, 3, .if_icmp .ge 29, 50, 0, .inl .null), (24, 1, .iload_n 2, 2, 0, .inl .null), (25, 1, .aload_n 0, 0, 0, .inl .null), (26, 1, .iload_n 1, 1, 0, .inl .null), (27, 1, .iload_n 3, 3, 0, .inl .null), (28, 1, .isub, 0, 0, .inl .null), (29, 3, .invokevirtual 267, 129, 50, .inr (1, 0, 0)), (32, 1, .aload_n 0, 0, 0, .inl .null), (33, 3, .getfield 19, 3, 1, .inl .null), (36, 3, .getfield 135, 6, 4, .inl .null), (39, 1, .iload_n 3, 3, 0, .inl .null), (40, 1, .iaload, 0, 0, .inl .null), (41, 1, .imul, 0, 0, .inl .null), (42, 1, .iadd, 0, 0, .inl .null), (43, 1, .istore_n 2, 2, 0, .inl .null), (44, 3, .iinc 3 1, 3, 0, .inl (.int 1)), (47, 3, .goto (-34), 13, 0, .inl .null), (50, 1, .iload_n 2, 2, 0, .inl .null), (51, 1, .ireturn, 0, 0, .inl .null)]
def cd_X7_probeSolves : List gE := [(0, 1, .aload_n 0, 0, 0, .inl .null), (1, 3, .invokevirtual 119, 110, 49, .inr (0, 1, 6)), (4, 1, .iconst 0, 0, 0, .inl (.int 0)), (5, 1, .istore_n 1, 1, 0, .inl .null), (6, 1, .iload_n 1, 1, 0, .inl .null), (7, 1, .aload_n 0, 0, 0, .inl .null), (8, 3, .getfield 19, 3, 1, .inl .null), (11, 3, .getfield 107, 6, 0, .inl .null), (14, 3, .if_icmp .ge 28, 42, 0, .inl .null), (17, 1, .aload_n 0, 0, 0, .inl .null), (18, 1, .iload_n 1, 1, 0, .inl .null), (19, 3, .invokevirtual 261, 128, 50, .inr (1, 0, 0)), (22, 1, .aload_n 0, 0, 0, .inl .null), (23, 3, .getfield 19, 3, 1, .inl .null), (26, 3, .getfield 132, 6, 3, .inl .null), (29, 1, .iload_n 1, 1, 0, .inl .null), (30, 1, .iaload, 0, 0, .inl .null), (31, 3, .if_icmp .eq 5, 36, 0, .inl .null), (34, 1, .iconst 0, 0, 0, .inl (.int 0)), (35, 1, .ireturn, 0, 0, .inl .null), (36, 3, .iinc 1 1, 1, 0, .inl (.int 1)), (39, 3, .goto (-33), 6, 0, .inl .null), (42, 1, .iconst 1, 0, 0, .inl (.int 1)), (43, 1, .ireturn, 0, 0, .inl .null)]
def cd_X7_entries : List gE := [(0, 1, .aload_n 0, 0, 0, .inl .null), (1, 3, .getfield 19, 3, 1, .inl .null), (4, 3, .getfield 270, 6, 9, .inl .null), (7, 1, .ireturn, 0, 0, .inl .null)]
def cd_X7_accountOf : List gE := [(0, 1, .aload_n 0, 0, 0, .inl .null), (1, 3, .invokevirtual 119, 110, 49, .inr (0, 1, 6)), (4, 1, .iload_n 1, 1, 0, .inl .null), (5, 3, .ifCond .lt 14, 19, 0, .inl .null), (8, 1, .iload_n 1, 1, 0, .inl .null), (9, 1, .aload_n 0, 0, 0, .inl .null), (10, 3, .getfield 19, 3, 1, .inl .null), (13, 3, .getfield 270, 6, 9, .inl .null), (16, 3, .if_icmp .lt 14, 30, 0, .inl .null), (19, 3, .new 81, 1, 1, .inl .null), (22, 1, .dup, 0, 0, .inl .null), (23, 3, .ldc_w 273, 0, 0, .inl .null), (26, 3, .invokespecial 85, 0, 0, .inl .null), (29, 1, .athrow, 0, 0, .inl .null), (30, 1, .iload_n 2, 2, 0, .inl .null), (31, 3, .ifCond .lt 8, 39, 0, .inl .null), (34, 1, .iload_n 2, 2, 0, .inl .null), (35, 1, .iconst 3, 0, 0, .inl (.int 3)), (36, 3, .if_icmp .lt 14, 50, 0, .inl .null), (39, 3, .new 92, 1, 2, .inl .null), (42, 1, .dup, 0, 0, .inl .null), (43, 3, .ldc_w 275, 0, 0, .inl .null), (46, 3, .invokespecial 96, 0, 0, .inl .null), (49, 1, .athrow, 0, 0, .inl .null), (50, 1, .aload_n 0, 0, 0, .inl .null), (51, 3, .getfield 19, 3, 1, .inl .null), (54, 3, .getfield 277, 6, 10, .inl .null), (57, 1, .iconst 3, 0, 0, .inl (.int 3)), (58, 1, .iload_n 1, 1, 0, .inl .null), (59, 1, .imul, 0, 0, .inl .null), (60, 1, .iload_n 2, 2, 0, .inl .null), (61, 1, .iadd, 0, 0, .inl .null), (62, 1, .iaload, 0, 0, .inl .null), (63, 1, .ireturn, 0, 0, .inl .null)]
def cd_X7_setDiagonal : List gE := [(0, 1, .aload_n 0, 0, 0, .inl .null), (1, 3, .invokevirtual 119, 110, 49, .inr (0, 1, 6)), (4, 1, .aload_n 0, 0, 0, .inl .null), (5, 1, .iload_n 1, 1, 0, .inl .null), (6, 3, .invokevirtual 122, 114, 50, .inr (0, 1, 6)), (9, 1, .iload_n 2, 2, 0, .inl .null), (10, 2, .bipush 50, 0, 0, .inl (.int 50)), (12, 3, .invokestatic 167, 117, 2, .inr (0, 1, 6)), (15, 1, .aload_n 0, 0, 0, .inl .null), (16, 3, .getfield 19, 3, 1, .inl .null), (19, 1, .iload_n 1, 1, 0, .inl .null), (20, 3, .invokevirtual 125, 46, 98, .inr (1, 0, 0)), (23, 1, .istore_n 3, 3, 0, .inl .null), (24, 1, .aload_n 0, 0, 0, .inl .null), (25, 3, .getfield 29, 3, 3, .inl .null), (28, 1, .aload_n 0, 0, 0, .inl .null), (29, 3, .getfield 19, 3, 1, .inl .null), (32, 3, .invokevirtual 280, 18, 210, .inr (0, 7, 142)), (35, 1, .aload_n 0, 0, 0, .inl .null), (36, 3, .getfield 19, 3, 1, .inl .null), (39, 1, .iload_n 1, 1, 0, .inl .null), (40, 1, .iload_n 2, 2, 0, .inl .null), (41, 3, .invokevirtual 171, 47, 99, .inr (0, 0, 0)), (44, 1, .aload_n 0, 0, 0, .inl .null), (45, 3, .getfield 19, 3, 1, .inl .null), (48, 3, .invokevirtual 283, 48, 97, .inr (0, 0, 0)), (51, 1, .iload_n 3, 3, 0, .inl .null), (52, 1, .ireturn, 0, 0, .inl .null)]
def cd_X7_setSide : List gE := [(0, 1, .aload_n 0, 0, 0, .inl .null), (1, 3, .invokevirtual 119, 110, 49, .inr (0, 1, 6)), (4, 1, .aload_n 0, 0, 0, .inl .null), (5, 1, .iload_n 1, 1, 0, .inl .null), (6, 3, .invokevirtual 129, 111, 50, .inr (0, 1, 6)), (9, 1, .iload_n 2, 2, 0, .inl .null), (10, 3, .sipush 999, 0, 0, .inl (.int 999)), (13, 3, .invokestatic 167, 117, 2, .inr (0, 1, 6)), (16, 1, .aload_n 0, 0, 0, .inl .null), (17, 3, .getfield 19, 3, 1, .inl .null), (20, 3, .getfield 132, 6, 3, .inl .null), (23, 1, .iload_n 1, 1, 0, .inl .null), (24, 1, .iaload, 0, 0, .inl .null), (25, 1, .istore_n 3, 3, 0, .inl .null), (26, 1, .aload_n 0, 0, 0, .inl .null), (27, 3, .getfield 29, 3, 3, .inl .null), (30, 1, .aload_n 0, 0, 0, .inl .null), (31, 3, .getfield 19, 3, 1, .inl .null), (34, 3, .invokevirtual 280, 18, 210, .inr (0, 7, 142)), (37, 1, .aload_n 0, 0, 0, .inl .null), (38, 3, .getfield 19, 3, 1, .inl .null), (41, 3, .getfield 132, 6, 3, .inl .null), (44, 1, .iload_n 1, 1, 0, .inl .null), (45, 1, .iload_n 2, 2, 0, .inl .null), (46, 1, .iastore, 0, 0, .inl .null), (47, 1, .aload_n 0, 0, 0, .inl .null), (48, 3, .getfield 19, 3, 1, .inl .null), (51, 3, .invokevirtual 283, 48, 97, .inr (0, 0, 0)), (54, 1, .iload_n 3, 3, 0, .inl .null), (55, 1, .ireturn, 0, 0, .inl .null)]
def cd_X7_setProbe : List gE := [(0, 1, .aload_n 0, 0, 0, .inl .null), (1, 3, .invokevirtual 119, 110, 49, .inr (0, 1, 6)), (4, 1, .aload_n 0, 0, 0, .inl .null), (5, 1, .iload_n 1, 1, 0, .inl .null), (6, 3, .invokevirtual 129, 111, 50, .inr (0, 1, 6)), (9, 1, .iload_n 2, 2, 0, .inl .null), (10, 3, .sipush 999, 0, 0, .inl (.int 999)), (13, 3, .invokestatic 167, 117, 2, .inr (0, 1, 6)), (16, 1, .aload_n 0, 0, 0, .inl .null), (17, 3, .getfield 19, 3, 1, .inl .null), (20, 3, .getfield 135, 6, 4, .inl .null), (23, 1, .iload_n 1, 1, 0, .inl .null), (24, 1, .iaload, 0, 0, .inl .null), (25, 1, .istore_n 3, 3, 0, .inl .null), (26, 1, .aload_n 0, 0, 0, .inl .null), (27, 3, .getfield 29, 3, 3, .inl .null), (30, 1, .aload_n 0, 0, 0, .inl .null), (31, 3, .getfield 19, 3, 1, .inl .null), (34, 3, .invokevirtual 280, 18, 210, .inr (0, 7, 142)), (37, 1, .aload_n 0, 0, 0, .inl .null), (38, 3, .getfield 19, 3, 1, .inl .null), (41, 3, .getfield 135, 6, 4, .inl .null), (44, 1, .iload_n 1, 1, 0, .inl .null), (45, 1, .iload_n 2, 2, 0, .inl .null), (46, 1, .iastore, 0, 0, .inl .null), (47, 1, .iload_n 3, 3, 0, .inl .null), (48, 1, .ireturn, 0, 0, .inl .null)]
def cd_X7_setPrime : List gE := [(0, 1, .aload_n 0, 0, 0, .inl .null), (1, 3, .invokevirtual 119, 110, 49, .inr (0, 1, 6)), (4, 1, .iload_n 1, 1, 0, .inl .null), (5, 3, .invokestatic 286, 120, 1, .inr (1, 0, 0)), (8, 3, .ifCond .ne 14, 22, 0, .inl .null), (11, 3, .new 92, 1, 2, .inl .null), (14, 1, .dup, 0, 0, .inl .null), (15, 3, .ldc_w 289, 0, 0, .inl .null), (18, 3, .invokespecial 96, 0, 0, .inl .null), (21, 1, .athrow, 0, 0, .inl .null), (22, 1, .aload_n 0, 0, 0, .inl .null), (23, 3, .getfield 19, 3, 1, .inl .null), (26, 3, .getfield 116, 6, 1, .inl .null), (29, 1, .istore_n 2, 2, 0, .inl .null), (30, 1, .aload_n 0, 0, 0, .inl .null), (31, 3, .getfield 29, 3, 3, .inl .null), (34, 1, .aload_n 0, 0, 0, .inl .null), (35, 3, .getfield 19, 3, 1, .inl .null), (38, 3, .invokevirtual 280, 18, 210, .inr (0, 7, 142)), (41, 1, .aload_n 0, 0, 0, .inl .null), (42, 3, .getfield 19, 3, 1, .inl .null), (45, 1, .iload_n 1, 1, 0, .inl .null), (46, 3, .putfield 116, 6, 1, .inl .null), (49, 1, .aload_n 0, 0, 0, .inl .null), (50, 3, .getfield 19, 3, 1, .inl .null), (53, 3, .invokevirtual 283, 48, 97, .inr (0, 0, 0)), (56, 1, .iload_n 2, 2, 0, .inl .null), (57, 1, .ireturn, 0, 0, .inl .null)]
def cd_X7_grow : List gE := [(0, 1, .aload_n 0, 0, 0, .inl .null), (1, 3, .invokevirtual 119, 110, 49, .inr (0, 1, 6)), (4, 1, .aload_n 0, 0, 0, .inl .null), (5, 3, .getfield 19, 3, 1, .inl .null), (8, 3, .getfield 107, 6, 0, .inl .null), (11, 2, .istore 4, 4, 0, .inl .null), (13, 2, .iload 4, 4, 0, .inl .null), (15, 2, .bipush 7, 0, 0, .inl (.int 7)), (17, 3, .if_icmp .lt 14, 31, 0, .inl .null), (20, 3, .new 92, 1, 2, .inl .null), (23, 1, .dup, 0, 0, .inl .null), (24, 3, .ldc_w 291, 0, 0, .inl .null), (27, 3, .invokespecial 96, 0, 0, .inl .null), (30, 1, .athrow, 0, 0, .inl .null), (31, 1, .iload_n 1, 1, 0, .inl .null), (32, 2, .bipush 50, 0, 0, .inl (.int 50)), (34, 3, .invokestatic 167, 117, 2, .inr (0, 1, 6)), (37, 1, .iload_n 2, 2, 0, .inl .null), (38, 2, .bipush 50, 0, 0, .inl (.int 50)), (40, 3, .invokestatic 167, 117, 2, .inr (0, 1, 6)), (43, 1, .iload_n 3, 3, 0, .inl .null), (44, 3, .sipush 999, 0, 0, .inl (.int 999)), (47, 3, .invokestatic 167, 117, 2, .inr (0, 1, 6)), (50, 1, .aload_n 0, 0, 0, .inl .null), (51, 3, .getfield 29, 3, 3, .inl .null), (54, 1, .aload_n 0, 0, 0, .inl .null), (55, 3, .getfield 19, 3, 1, .inl .null), (58, 3, .invokevirtual 280, 18, 210, .inr (0, 7, 142)), (61, 1, .aload_n 0, 0, 0, .inl .null), (62, 3, .getfield 19, 3, 1, .inl .null), (65, 2, .iload 4, 4, 0, .inl .null), (67, 1, .iconst 1, 0, 0, .inl (.int 1)), (68, 1, .iadd, 0, 0, .inl .null), (69, 3, .putfield 107, 6, 0, .inl .null), (72, 1, .aload_n 0, 0, 0, .inl .null), (73, 3, .getfield 19, 3, 1, .inl .null), (76, 2, .iload 4, 4, 0, .inl .null), (78, 1, .iload_n 1, 1, 0, .inl .null), (79, 3, .invokevirtual 171, 47, 99, .inr (0, 0, 0)), (82, 1, .aload_n 0, 0, 0, .inl .null), (83, 3, .getfield 19, 3, 1, .inl .null), (86, 2, .iload 4, 4, 0, .inl .null), (88, 1, .ineg, 0, 0, .inl .null), (89, 1, .iload_n 2, 2, 0, .inl .null), (90, 3, .invokevirtual 171, 47, 99, .inr (0, 0, 0)), (93, 1, .aload_n 0, 0, 0, .inl .null), (94, 3, .getfield 19, 3, 1, .inl .null), (97, 3, .getfield 132, 6, 3, .inl .null), (100, 2, .iload 4, 4, 0, .inl .null), (102, 1, .iload_n 3, 3, 0, .inl .null), (103, 1, .iastore, 0, 0, .inl .null), (104, 1, .aload_n 0, 0, 0, .inl .null), (105, 3, .getfield 19, 3, 1, .inl .null), (108, 3, .getfield 135, 6, 4, .inl .null), (111, 2, .iload 4, 4, 0, .inl .null), (113, 1, .iconst 0, 0, 0, .inl (.int 0)), (114, 1, .iastore, 0, 0, .inl .null), (115, 1, .aload_n 0, 0, 0, .inl .null), (116, 3, .getfield 19, 3, 1, .inl .null), (119, 3, .invokevirtual 283, 48, 97, .inr (0, 0, 0)), (122, 1, .aload_n 0, 0, 0, .inl .null), (123, 3, .getfield 19, 3, 1, .inl .null), (126, 3, .getfield 107, 6, 0, .inl .null), (129, 1, .ireturn, 0, 0, .inl .null)]
def cd_X7_shrink : List gE := [(0, 1, .aload_n 0, 0, 0, .inl .null), (1, 3, .invokevirtual 119, 110, 49, .inr (0, 1, 6)), (4, 1, .aload_n 0, 0, 0, .inl .null), (5, 3, .getfield 19, 3, 1, .inl .null), (8, 3, .getfield 107, 6, 0, .inl .null), (11, 1, .iconst 1, 0, 0, .inl (.int 1)), (12, 3, .if_icmp .ne 14, 26, 0, .inl .null), (15, 3, .new 92, 1, 2, .inl .null), (18, 1, .dup, 0, 0, .inl .null), (19, 3, .ldc_w 293, 0, 0, .inl .null), (22, 3, .invokespecial 96, 0, 0, .inl .null), (25, 1, .athrow, 0, 0, .inl .null), (26, 1, .aload_n 0, 0, 0, .inl .null), (27, 3, .getfield 29, 3, 3, .inl .null), (30, 1, .aload_n 0, 0, 0, .inl .null), (31, 3, .getfield 19, 3, 1, .inl .null), (34, 3, .invokevirtual 280, 18, 210, .inr (0, 7, 142)), (37, 1, .aload_n 0, 0, 0, .inl .null), (38, 3, .getfield 19, 3, 1, .inl .null), (41, 1, .dup, 0, 0, .inl .null), (42, 3, .getfield 107, 6, 0, .inl .null), (45, 1, .iconst 1, 0, 0, .inl (.int 1)), (46, 1, .isub, 0, 0, .inl .null), (47, 3, .putfield 107, 6, 0, .inl .null), (50, 1, .aload_n 0, 0, 0, .inl .null), (51, 3, .getfield 19, 3, 1, .inl .null), (54, 3, .invokevirtual 283, 48, 97, .inr (0, 0, 0)), (57, 1, .aload_n 0, 0, 0, .inl .null), (58, 3, .getfield 19, 3, 1, .inl .null), (61, 3, .getfield 107, 6, 0, .inl .null), (64, 1, .ireturn, 0, 0, .inl .null)]
def cd_X7_lift : List gE := [(0, 1, .aload_n 0, 0, 0, .inl .null), (1, 3, .invokevirtual 119, 110, 49, .inr (0, 1, 6)), (4, 1, .aload_n 0, 0, 0, .inl .null), (5, 3, .invokevirtual 203, 119, 49, .inr (0, 1, 6)), (8, 1, .aload_n 0, 0, 0, .inl .null), (9, 3, .getfield 19, 3, 1, .inl .null), (12, 3, .getfield 214, 6, 5, .inl .null), (15, 1, .aload_n 0, 0, 0, .inl .null), (16, 3, .getfield 19, 3, 1, .inl .null), (19, 3, .invokevirtual 217, 49, 97, .inr (1, 0, 0)), (22, 3, .if_icmp .lt 14, 36, 0, .inl .null), (25, 3, .new 92, 1, 2, .inl .null), (28, 1, .dup, 0, 0, .inl .null), (29, 3, .ldc_w 295, 0, 0, .inl .null), (32, 3, .invokespecial 96, 0, 0, .inl .null), (35, 1, .athrow, 0, 0, .inl .null), (36, 1, .aload_n 0, 0, 0, .inl .null), (37, 3, .getfield 29, 3, 3, .inl .null), (40, 1, .aload_n 0, 0, 0, .inl .null), (41, 3, .getfield 19, 3, 1, .inl .null), (44, 3, .invokevirtual 280, 18, 210, .inr (0, 7, 142)), (47, 1, .aload_n 0, 0, 0, .inl .null), (48, 3, .getfield 65, 3, 9, .inl .null), (51, 1, .aload_n 0, 0, 0, .inl .null), (52, 3, .getfield 19, 3, 1, .inl .null), (55, 1, .aload_n 0, 0, 0, .inl .null), (56, 3, .getfield 58, 3, 8, .inl .null), (59, 3, .invokevirtual 297, 39, 451, .inr (1, 0, 0)), (62, 1, .pop, 0, 0, .inl .null), (63, 1, .aload_n 0, 0, 0, .inl .null), (64, 3, .getfield 19, 3, 1, .inl .null), (67, 3, .getfield 214, 6, 5, .inl .null), (70, 1, .ireturn, 0, 0, .inl .null)]
def cd_X7_refine : List gE := [(0, 1, .aload_n 0, 0, 0, .inl .null), (1, 3, .invokevirtual 119, 110, 49, .inr (0, 1, 6)), (4, 1, .iload_n 1, 1, 0, .inl .null), (5, 1, .iconst 1, 0, 0, .inl (.int 1)), (6, 3, .if_icmp .lt 9, 15, 0, .inl .null), (9, 1, .iload_n 1, 1, 0, .inl .null), (10, 2, .bipush 40, 0, 0, .inl (.int 40)), (12, 3, .if_icmp .le 14, 26, 0, .inl .null), (15, 3, .new 92, 1, 2, .inl .null), (18, 1, .dup, 0, 0, .inl .null), (19, 3, .ldc_w 301, 0, 0, .inl .null), (22, 3, .invokespecial 96, 0, 0, .inl .null), (25, 1, .athrow, 0, 0, .inl .null), (26, 1, .aload_n 0, 0, 0, .inl .null), (27, 3, .invokevirtual 203, 119, 49, .inr (0, 1, 6)), (30, 1, .aload_n 0, 0, 0, .inl .null), (31, 3, .getfield 29, 3, 3, .inl .null), (34, 1, .aload_n 0, 0, 0, .inl .null), (35, 3, .getfield 19, 3, 1, .inl .null), (38, 3, .invokevirtual 280, 18, 210, .inr (0, 7, 142)), (41, 1, .iload_n 1, 1, 0, .inl .null), (42, 1, .aload_n 0, 0, 0, .inl .null), (43, 3, .getfield 19, 3, 1, .inl .null), (46, 3, .invokevirtual 217, 49, 97, .inr (1, 0, 0)), (49, 1, .aload_n 0, 0, 0, .inl .null), (50, 3, .getfield 19, 3, 1, .inl .null), (53, 3, .getfield 214, 6, 5, .inl .null), (56, 1, .isub, 0, 0, .inl .null), (57, 3, .invokestatic 303, 308, 2, .inr (1, 0, 0)), (60, 1, .istore_n 2, 2, 0, .inl .null), (61, 1, .aload_n 0, 0, 0, .inl .null), (62, 3, .getfield 58, 3, 8, .inl .null), (65, 1, .aload_n 0, 0, 0, .inl .null), (66, 3, .getfield 19, 3, 1, .inl .null), (69, 3, .invokevirtual 251, 1, 402, .inr (1, 0, 0)), (72, 1, .istore_n 3, 3, 0, .inl .null), (73, 1, .iconst 0, 0, 0, .inl (.int 0)), (74, 2, .istore 4, 4, 0, .inl .null), (76, 2, .iload 4, 4, 0, .inl .null), (78, 1, .iload_n 2, 2, 0, .inl .null), (79, 3, .if_icmp .ge 29, 108, 0, .inl .null), (82, 1, .iload_n 3, 3, 0, .inl .null), (83, 3, .ifCond .ne 25, 108, 0, .inl .null), (86, 1, .aload_n 0, 0, 0, .inl .null), (87, 3, .getfield 65, 3, 9, .inl .null), (90, 1, .aload_n 0, 0, 0, .inl .null), (91, 3, .getfield 19, 3, 1, .inl .null), (94, 1, .aload_n 0, 0, 0, .inl .null), (95, 3, .getfield 58, 3, 8, .inl .null), (98, 3, .invokevirtual 297, 39, 451, .inr (1, 0, 0)), (101, 1, .istore_n 3, 3, 0, .inl .null), (102, 3, .iinc 4 1, 4, 0, .inl (.int 1)), (105, 3, .goto (-29), 76, 0, .inl .null), (108, 2, .iload 4, 4, 0, .inl .null), (110, 1, .ireturn, 0, 0, .inl .null)]
def cd_X7_undo : List gE := [(0, 1, .aload_n 0, 0, 0, .inl .null), (1, 3, .getfield 29, 3, 3, .inl .null), (4, 3, .invokevirtual 306, 19, 209, .inr (4, 0, 0)), (7, 1, .astore_n 1, 1, 0, .inl .null), (8, 1, .aload_n 1, 1, 0, .inl .null), (9, 3, .ifnonnull 14, 23, 0, .inl .null), (12, 3, .new 310, 1, 0, .inl .null), (15, 1, .dup, 0, 0, .inl .null), (16, 3, .ldc_w 312, 0, 0, .inl .null), (19, 3, .invokespecial 314, 0, 0, .inl .null), (22, 1, .athrow, 0, 0, .inl .null), (23, 1, .aload_n 0, 0, 0, .inl .null), (24, 3, .getfield 19, 3, 1, .inl .null), (27, 1, .aload_n 1, 1, 0, .inl .null), (28, 3, .invokevirtual 100, 45, 98, .inr (0, 0, 0)), (31, 1, .aload_n 0, 0, 0, .inl .null), (32, 3, .getfield 29, 3, 3, .inl .null), (35, 3, .getfield 315, 13, 2, .inl .null), (38, 1, .ireturn, 0, 0, .inl .null)]
def cd_X7_undoable : List gE := [(0, 1, .aload_n 0, 0, 0, .inl .null), (1, 3, .getfield 29, 3, 3, .inl .null), (4, 3, .getfield 315, 13, 2, .inl .null), (7, 1, .ireturn, 0, 0, .inl .null)]
def cd_X7_save : List gE := [(0, 1, .aload_n 0, 0, 0, .inl .null), (1, 3, .invokevirtual 119, 110, 49, .inr (0, 1, 6)), (4, 1, .iload_n 1, 1, 0, .inl .null), (5, 3, .invokestatic 318, 116, 1, .inr (0, 1, 6)), (8, 1, .aload_n 0, 0, 0, .inl .null), (9, 3, .getfield 33, 3, 4, .inl .null), (12, 1, .iload_n 1, 1, 0, .inl .null), (13, 1, .aaload, 0, 0, .inl .null), (14, 3, .ifnonnull 16, 30, 0, .inl .null), (17, 1, .aload_n 0, 0, 0, .inl .null), (18, 3, .getfield 33, 3, 4, .inl .null), (21, 1, .iload_n 1, 1, 0, .inl .null), (22, 3, .new 16, 2, 0, .inl .null), (25, 1, .dup, 0, 0, .inl .null), (26, 3, .invokespecial 18, 0, 0, .inl .null), (29, 1, .aastore, 0, 0, .inl .null), (30, 1, .aload_n 0, 0, 0, .inl .null), (31, 3, .getfield 33, 3, 4, .inl .null), (34, 1, .iload_n 1, 1, 0, .inl .null), (35, 1, .aaload, 0, 0, .inl .null), (36, 1, .aload_n 0, 0, 0, .inl .null), (37, 3, .getfield 19, 3, 1, .inl .null), (40, 3, .invokevirtual 100, 45, 98, .inr (0, 0, 0)), (43, 1, .aload_n 0, 0, 0, .inl .null), (44, 3, .getfield 37, 3, 5, .inl .null), (47, 1, .iload_n 1, 1, 0, .inl .null), (48, 1, .iconst 1, 0, 0, .inl (.int 1)), (49, 1, .bastore, 0, 0, .inl .null), (50, 1, .aload_n 0, 0, 0, .inl .null), (51, 3, .getfield 19, 3, 1, .inl .null), (54, 3, .getfield 107, 6, 0, .inl .null), (57, 1, .ireturn, 0, 0, .inl .null)]
def cd_X7_restore : List gE := [(0, 1, .iload_n 1, 1, 0, .inl .null), (1, 3, .invokestatic 318, 116, 1, .inr (0, 1, 6)), (4, 1, .aload_n 0, 0, 0, .inl .null), (5, 3, .getfield 33, 3, 4, .inl .null), (8, 1, .iload_n 1, 1, 0, .inl .null), (9, 1, .aaload, 0, 0, .inl .null), (10, 1, .astore_n 2, 2, 0, .inl .null), (11, 1, .aload_n 2, 2, 0, .inl .null), (12, 3, .ifnull 12, 24, 0, .inl .null), (15, 1, .aload_n 0, 0, 0, .inl .null), (16, 3, .getfield 37, 3, 5, .inl .null), (19, 1, .iload_n 1, 1, 0, .inl .null), (20, 1, .baload, 0, 0, .inl .null), (21, 3, .ifCond .ne 14, 35, 0, .inl .null), (24, 3, .new 310, 1, 0, .inl .null), (27, 1, .dup, 0, 0, .inl .null), (28, 3, .ldc_w 321, 0, 0, .inl .null), (31, 3, .invokespecial 314, 0, 0, .inl .null), (34, 1, .athrow, 0, 0, .inl .null), (35, 1, .aload_n 0, 0, 0, .inl .null), (36, 3, .getfield 19, 3, 1, .inl .null), (39, 1, .aload_n 2, 2, 0, .inl .null), (40, 3, .invokevirtual 100, 45, 98, .inr (0, 0, 0)), (43, 1, .aload_n 0, 0, 0, .inl .null), (44, 3, .getfield 29, 3, 3, .inl .null), (47, 3, .invokevirtual 104, 20, 209, .inr (0, 0, 0)), (50, 1, .aload_n 0, 0, 0, .inl .null), (51, 3, .getfield 19, 3, 1, .inl .null), (54, 3, .getfield 107, 6, 0, .inl .null), (57, 1, .ireturn, 0, 0, .inl .null)]
def cd_X7_requireSystem : List gE := [(0, 1, .aload_n 0, 0, 0, .inl .null), (1, 3, .getfield 19, 3, 1, .inl .null), (4, 3, .getfield 107, 6, 0, .inl .null), (7, 3, .ifCond .ne 14, 21, 0, .inl .null), (10, 3, .new 310, 1, 0, .inl .null), (13, 1, .dup, 0, 0, .inl .null), (14, 3, .ldc_w 323, 0, 0, .inl .null), (17, 3, .invokespecial 314, 0, 0, .inl .null), (20, 1, .athrow, 0, 0, .inl .null), (21, 1, .return_, 0, 0, .inl .null)]
def cd_X7_requireRow : List gE := [(0, 1, .iload_n 1, 1, 0, .inl .null), (1, 3, .ifCond .lt 14, 15, 0, .inl .null), (4, 1, .iload_n 1, 1, 0, .inl .null), (5, 1, .aload_n 0, 0, 0, .inl .null), (6, 3, .getfield 19, 3, 1, .inl .null), (9, 3, .getfield 107, 6, 0, .inl .null), (12, 3, .if_icmp .lt 14, 26, 0, .inl .null), (15, 3, .new 81, 1, 1, .inl .null), (18, 1, .dup, 0, 0, .inl .null), (19, 3, .ldc_w 325, 0, 0, .inl .null), (22, 3, .invokespecial 85, 0, 0, .inl .null), (25, 1, .athrow, 0, 0, .inl .null), (26, 1, .return_, 0, 0, .inl .null)]
def cd_X7_requireBehind : List gE := [(0, 1, .iload_n 2, 2, 0, .inl .null), (1, 1, .iload_n 1, 1, 0, .inl .null), (2, 3, .if_icmp .lt 14, 16, 0, .inl .null), (5, 1, .iload_n 2, 2, 0, .inl .null), (6, 1, .aload_n 0, 0, 0, .inl .null), (7, 3, .getfield 19, 3, 1, .inl .null), (10, 3, .getfield 107, 6, 0, .inl .null), (13, 3, .if_icmp .lt 14, 27, 0, .inl .null), (16, 3, .new 81, 1, 1, .inl .null), (19, 1, .dup, 0, 0, .inl .null), (20, 3, .ldc_w 327, 0, 0, .inl .null), (23, 3, .invokespecial 85, 0, 0, .inl .null), (26, 1, .athrow, 0, 0, .inl .null), (27, 1, .return_, 0, 0, .inl .null)]
def cd_X7_requireWrappedRow : List gE := [(0, 1, .iload_n 1, 1, 0, .inl .null), (1, 3, .ifCond .lt 16, 17, 0, .inl .null), (4, 1, .iload_n 1, 1, 0, .inl .null), (5, 1, .iconst 2, 0, 0, .inl (.int 2)), (6, 1, .aload_n 0, 0, 0, .inl .null), (7, 3, .getfield 19, 3, 1, .inl .null), (10, 3, .getfield 107, 6, 0, .inl .null), (13, 1, .imul, 0, 0, .inl .null), (14, 3, .if_icmp .lt 14, 28, 0, .inl .null), (17, 3, .new 81, 1, 1, .inl .null), (20, 1, .dup, 0, 0, .inl .null), (21, 3, .ldc_w 329, 0, 0, .inl .null), (24, 3, .invokespecial 85, 0, 0, .inl .null), (27, 1, .athrow, 0, 0, .inl .null), (28, 1, .return_, 0, 0, .inl .null)]
def cd_X7_requireDiagonal : List gE := [(0, 1, .iload_n 1, 1, 0, .inl .null), (1, 1, .aload_n 0, 0, 0, .inl .null), (2, 3, .getfield 19, 3, 1, .inl .null), (5, 3, .getfield 107, 6, 0, .inl .null), (8, 1, .ineg, 0, 0, .inl .null), (9, 3, .if_icmp .le 14, 23, 0, .inl .null), (12, 1, .iload_n 1, 1, 0, .inl .null), (13, 1, .aload_n 0, 0, 0, .inl .null), (14, 3, .getfield 19, 3, 1, .inl .null), (17, 3, .getfield 107, 6, 0, .inl .null), (20, 3, .if_icmp .lt 14, 34, 0, .inl .null), (23, 3, .new 81, 1, 1, .inl .null), (26, 1, .dup, 0, 0, .inl .null), (27, 3, .ldc_w 331, 0, 0, .inl .null), (30, 3, .invokespecial 85, 0, 0, .inl .null), (33, 1, .athrow, 0, 0, .inl .null), (34, 1, .return_, 0, 0, .inl .null)]
def cd_X7_requireSize : List gE := [(0, 1, .iload_n 1, 1, 0, .inl .null), (1, 3, .ifCond .lt 14, 15, 0, .inl .null), (4, 1, .iload_n 1, 1, 0, .inl .null), (5, 1, .aload_n 0, 0, 0, .inl .null), (6, 3, .getfield 19, 3, 1, .inl .null), (9, 3, .getfield 107, 6, 0, .inl .null), (12, 3, .if_icmp .le 14, 26, 0, .inl .null), (15, 3, .new 81, 1, 1, .inl .null), (18, 1, .dup, 0, 0, .inl .null), (19, 3, .ldc_w 333, 0, 0, .inl .null), (22, 3, .invokespecial 85, 0, 0, .inl .null), (25, 1, .athrow, 0, 0, .inl .null), (26, 1, .return_, 0, 0, .inl .null)]
def cd_X7_requireSlot : List gE := [(0, 1, .iload_n 0, 0, 0, .inl .null), (1, 3, .ifCond .lt 8, 9, 0, .inl .null), (4, 1, .iload_n 0, 0, 0, .inl .null), (5, 1, .iconst 2, 0, 0, .inl (.int 2)), (6, 3, .if_icmp .lt 14, 20, 0, .inl .null), (9, 3, .new 81, 1, 1, .inl .null), (12, 1, .dup, 0, 0, .inl .null), (13, 3, .ldc_w 335, 0, 0, .inl .null), (16, 3, .invokespecial 85, 0, 0, .inl .null), (19, 1, .athrow, 0, 0, .inl .null), (20, 1, .return_, 0, 0, .inl .null)]
def cd_X7_requireWithin : List gE := [(0, 1, .iload_n 0, 0, 0, .inl .null), (1, 1, .iload_n 1, 1, 0, .inl .null), (2, 1, .ineg, 0, 0, .inl .null), (3, 3, .if_icmp .lt 8, 11, 0, .inl .null), (6, 1, .iload_n 0, 0, 0, .inl .null), (7, 1, .iload_n 1, 1, 0, .inl .null), (8, 3, .if_icmp .le 14, 22, 0, .inl .null), (11, 3, .new 92, 1, 2, .inl .null), (14, 1, .dup, 0, 0, .inl .null), (15, 3, .ldc_w 337, 0, 0, .inl .null), (18, 3, .invokespecial 96, 0, 0, .inl .null), (21, 1, .athrow, 0, 0, .inl .null), (22, 1, .return_, 0, 0, .inl .null)]
def cd_X7_requireFraction : List gE := [(0, 1, .aload_n 0, 0, 0, .inl .null), (1, 3, .getfield 58, 3, 8, .inl .null), (4, 1, .aload_n 0, 0, 0, .inl .null), (5, 3, .getfield 19, 3, 1, .inl .null), (8, 1, .iload_n 1, 1, 0, .inl .null), (9, 3, .invokevirtual 244, 0, 403, .inr (1, 0, 0)), (12, 3, .ifCond .ne 14, 26, 0, .inl .null), (15, 3, .new 92, 1, 2, .inl .null), (18, 1, .dup, 0, 0, .inl .null), (19, 3, .ldc_w 339, 0, 0, .inl .null), (22, 3, .invokespecial 96, 0, 0, .inl .null), (25, 1, .athrow, 0, 0, .inl .null), (26, 1, .return_, 0, 0, .inl .null)]
def cd_X7_requireLifter : List gE := [(0, 1, .aload_n 0, 0, 0, .inl .null), (1, 3, .getfield 65, 3, 9, .inl .null), (4, 1, .aload_n 0, 0, 0, .inl .null), (5, 3, .getfield 19, 3, 1, .inl .null), (8, 3, .invokevirtual 255, 35, 450, .inr (1, 0, 0)), (11, 3, .ifCond .ne 13, 24, 0, .inl .null), (14, 3, .new 92, 1, 2, .inl .null), (17, 1, .dup, 0, 0, .inl .null), (18, 2, .ldc 201, 0, 0, .inl .null), (20, 3, .invokespecial 96, 0, 0, .inl .null), (23, 1, .athrow, 0, 0, .inl .null), (24, 1, .return_, 0, 0, .inl .null)]
def cd_X7_isListed : List gE := [(0, 3, .getstatic 164, 0, 0, .inr (1, 0, 0)), (3, 1, .astore_n 1, 1, 0, .inl .null), (4, 1, .aload_n 1, 1, 0, .inl .null), (5, 1, .arraylength, 0, 0, .inl .null), (6, 1, .istore_n 2, 2, 0, .inl .null), (7, 1, .iconst 0, 0, 0, .inl (.int 0)), (8, 1, .istore_n 3, 3, 0, .inl .null), (9, 1, .iload_n 3, 3, 0, .inl .null), (10, 1, .iload_n 2, 2, 0, .inl .null), (11, 3, .if_icmp .ge 22, 33, 0, .inl .null), (14, 1, .aload_n 1, 1, 0, .inl .null), (15, 1, .iload_n 3, 3, 0, .inl .null), (16, 1, .iaload, 0, 0, .inl .null), (17, 2, .istore 4, 4, 0, .inl .null), (19, 2, .iload 4, 4, 0, .inl .null), (21, 1, .iload_n 0, 0, 0, .inl .null), (22, 3, .if_icmp .ne 5, 27, 0, .inl .null), (25, 1, .iconst 1, 0, 0, .inl (.int 1)), (26, 1, .ireturn, 0, 0, .inl .null), (27, 3, .iinc 3 1, 3, 0, .inl (.int 1)), (30, 3, .goto (-21), 9, 0, .inl .null), (33, 1, .iconst 0, 0, 0, .inl (.int 0)), (34, 1, .ireturn, 0, 0, .inl .null)]
def cd_X7_reduced : List gE := [(0, 1, .iload_n 1, 1, 0, .inl .null), (1, 1, .iconst 1, 0, 0, .inl (.int 1)), (2, 3, .if_icmp .ge 7, 9, 0, .inl .null), (5, 1, .iconst 0, 0, 0, .inl (.int 0)), (6, 3, .goto 8, 14, 0, .inl .null), (9, 1, .iload_n 0, 0, 0, .inl .null), (10, 1, .iload_n 1, 1, 0, .inl .null), (11, 3, .invokestatic 341, 304, 2, .inr (1, 0, 0)), (14, 1, .ireturn, 0, 0, .inl .null)]
def cd_X7_leadingMinor : List gE := [(0, 1, .aload_n 0, 0, 0, .inl .null), (1, 3, .getfield 44, 3, 6, .inl .null), (4, 1, .aload_n 0, 0, 0, .inl .null), (5, 3, .getfield 19, 3, 1, .inl .null), (8, 1, .iload_n 1, 1, 0, .inl .null), (9, 1, .iload_n 2, 2, 0, .inl .null), (10, 1, .iconst 0, 0, 0, .inl (.int 0)), (11, 3, .invokevirtual 145, 6, 277, .inr (0, 0, 0)), (14, 1, .aload_n 0, 0, 0, .inl .null), (15, 3, .getfield 44, 3, 6, .inl .null), (18, 1, .iload_n 1, 1, 0, .inl .null), (19, 3, .invokevirtual 149, 11, 274, .inr (1, 0, 0)), (22, 1, .pop, 0, 0, .inl .null), (23, 1, .aload_n 0, 0, 0, .inl .null), (24, 3, .getfield 44, 3, 6, .inl .null), (27, 3, .invokevirtual 174, 10, 273, .inr (1, 0, 0)), (30, 1, .ireturn, 0, 0, .inl .null)]
def cd_X7_findSteps : List gE := [(0, 1, .iconst 0, 0, 0, .inl (.int 0)), (1, 1, .istore_n 1, 1, 0, .inl .null), (2, 1, .aload_n 0, 0, 0, .inl .null), (3, 3, .getfield 69, 3, 10, .inl .null), (6, 1, .iconst 0, 0, 0, .inl (.int 0)), (7, 1, .iconst 0, 0, 0, .inl (.int 0)), (8, 1, .iastore, 0, 0, .inl .null), (9, 1, .iconst 1, 0, 0, .inl (.int 1)), (10, 1, .istore_n 2, 2, 0, .inl .null), (11, 1, .iload_n 2, 2, 0, .inl .null), (12, 1, .aload_n 0, 0, 0, .inl .null), (13, 3, .getfield 19, 3, 1, .inl .null), (16, 3, .getfield 107, 6, 0, .inl .null), (19, 3, .if_icmp .gt 45, 64, 0, .inl .null), (22, 1, .iload_n 1, 1, 0, .inl .null), (23, 1, .iconst 1, 0, 0, .inl (.int 1)), (24, 1, .iadd, 0, 0, .inl .null), (25, 1, .aload_n 0, 0, 0, .inl .null), (26, 3, .getfield 69, 3, 10, .inl .null), (29, 1, .arraylength, 0, 0, .inl .null), (30, 3, .if_icmp .ge 34, 64, 0, .inl .null), (33, 1, .aload_n 0, 0, 0, .inl .null), (34, 1, .iload_n 2, 2, 0, .inl .null), (35, 1, .aload_n 0, 0, 0, .inl .null), (36, 3, .getfield 19, 3, 1, .inl .null), (39, 3, .getfield 116, 6, 1, .inl .null), (42, 3, .invokevirtual 141, 122, 51, .inr (1, 0, 0)), (45, 3, .ifCond .eq 13, 58, 0, .inl .null), (48, 3, .iinc 1 1, 1, 0, .inl (.int 1)), (51, 1, .aload_n 0, 0, 0, .inl .null), (52, 3, .getfield 69, 3, 10, .inl .null), (55, 1, .iload_n 1, 1, 0, .inl .null), (56, 1, .iload_n 2, 2, 0, .inl .null), (57, 1, .iastore, 0, 0, .inl .null), (58, 3, .iinc 2 1, 2, 0, .inl (.int 1)), (61, 3, .goto (-50), 11, 0, .inl .null), (64, 1, .iload_n 1, 1, 0, .inl .null), (65, 1, .ireturn, 0, 0, .inl .null)]
def cd_X7_startBehind : List gE := [(0, 1, .aload_n 0, 0, 0, .inl .null), (1, 3, .invokevirtual 152, 123, 49, .inr (1, 0, 0)), (4, 1, .istore_n 2, 2, 0, .inl .null), (5, 1, .iload_n 1, 1, 0, .inl .null), (6, 3, .ifCond .lt 8, 14, 0, .inl .null), (9, 1, .iload_n 1, 1, 0, .inl .null), (10, 1, .iload_n 2, 2, 0, .inl .null), (11, 3, .if_icmp .le 14, 25, 0, .inl .null), (14, 3, .new 81, 1, 1, .inl .null), (17, 1, .dup, 0, 0, .inl .null), (18, 3, .ldc_w 344, 0, 0, .inl .null), (21, 3, .invokespecial 85, 0, 0, .inl .null), (24, 1, .athrow, 0, 0, .inl .null), (25, 1, .aload_n 0, 0, 0, .inl .null), (26, 3, .getfield 69, 3, 10, .inl .null), (29, 1, .iload_n 1, 1, 0, .inl .null), (30, 1, .iaload, 0, 0, .inl .null), (31, 1, .ireturn, 0, 0, .inl .null)]
def cd_X7_complementBehind : List gE := [(0, 1, .aload_n 0, 0, 0, .inl .null), (1, 3, .getfield 44, 3, 6, .inl .null), (4, 1, .aload_n 0, 0, 0, .inl .null), (5, 3, .getfield 19, 3, 1, .inl .null), (8, 1, .aload_n 0, 0, 0, .inl .null), (9, 3, .getfield 19, 3, 1, .inl .null), (12, 3, .getfield 107, 6, 0, .inl .null), (15, 1, .aload_n 0, 0, 0, .inl .null), (16, 3, .getfield 19, 3, 1, .inl .null), (19, 3, .getfield 116, 6, 1, .inl .null), (22, 1, .iconst 0, 0, 0, .inl (.int 0)), (23, 3, .invokevirtual 145, 6, 277, .inr (0, 0, 0)), (26, 1, .aload_n 0, 0, 0, .inl .null), (27, 3, .getfield 44, 3, 6, .inl .null), (30, 1, .iload_n 1, 1, 0, .inl .null), (31, 3, .invokevirtual 149, 11, 274, .inr (1, 0, 0)), (34, 1, .pop, 0, 0, .inl .null), (35, 1, .return_, 0, 0, .inl .null)]
def cd_X7_pairsBehind : List gE := [(0, 1, .aload_n 0, 0, 0, .inl .null), (1, 1, .iload_n 1, 1, 0, .inl .null), (2, 3, .invokevirtual 180, 125, 50, .inr (0, 0, 0)), (5, 1, .aload_n 0, 0, 0, .inl .null), (6, 3, .getfield 44, 3, 6, .inl .null), (9, 1, .iload_n 1, 1, 0, .inl .null), (10, 3, .invokevirtual 186, 17, 274, .inr (0, 0, 0)), (13, 1, .aload_n 0, 0, 0, .inl .null), (14, 3, .getfield 51, 3, 7, .inl .null), (17, 1, .aload_n 0, 0, 0, .inl .null), (18, 3, .getfield 44, 3, 6, .inl .null), (21, 1, .iload_n 1, 1, 0, .inl .null), (22, 3, .invokevirtual 346, 41, 323, .inr (1, 0, 0)), (25, 1, .ireturn, 0, 0, .inl .null)]
def cd_X7_eliminateWithSides : List gE := [(0, 1, .aload_n 0, 0, 0, .inl .null), (1, 3, .getfield 19, 3, 1, .inl .null), (4, 3, .getfield 107, 6, 0, .inl .null), (7, 1, .istore_n 1, 1, 0, .inl .null), (8, 1, .aload_n 0, 0, 0, .inl .null), (9, 3, .getfield 44, 3, 6, .inl .null), (12, 1, .aload_n 0, 0, 0, .inl .null), (13, 3, .getfield 19, 3, 1, .inl .null), (16, 1, .iload_n 1, 1, 0, .inl .null), (17, 1, .aload_n 0, 0, 0, .inl .null), (18, 3, .getfield 19, 3, 1, .inl .null), (21, 3, .getfield 116, 6, 1, .inl .null), (24, 1, .iconst 1, 0, 0, .inl (.int 1)), (25, 3, .invokevirtual 145, 6, 277, .inr (0, 0, 0)), (28, 1, .iconst 0, 0, 0, .inl (.int 0)), (29, 1, .istore_n 2, 2, 0, .inl .null), (30, 1, .iload_n 2, 2, 0, .inl .null), (31, 1, .iload_n 1, 1, 0, .inl .null), (32, 3, .if_icmp .ge 27, 59, 0, .inl .null), (35, 1, .aload_n 0, 0, 0, .inl .null), (36, 3, .getfield 44, 3, 6, .inl .null), (39, 1, .iload_n 2, 2, 0, .inl .null), (40, 1, .iload_n 1, 1, 0, .inl .null), (41, 1, .aload_n 0, 0, 0, .inl .null), (42, 3, .getfield 19, 3, 1, .inl .null), (45, 3, .getfield 132, 6, 3, .inl .null), (48, 1, .iload_n 2, 2, 0, .inl .null), (49, 1, .iaload, 0, 0, .inl .null), (50, 3, .invokevirtual 349, 9, 276, .inr (0, 0, 0)), (53, 3, .iinc 2 1, 2, 0, .inl (.int 1)), (56, 3, .goto (-26), 30, 0, .inl .null), (59, 1, .aload_n 0, 0, 0, .inl .null), (60, 3, .getfield 44, 3, 6, .inl .null), (63, 1, .iload_n 1, 1, 0, .inl .null), (64, 3, .invokevirtual 149, 11, 274, .inr (1, 0, 0)), (67, 1, .ireturn, 0, 0, .inl .null)]
def cd_X7_timesProbe : List gE := [(0, 1, .iconst 0, 0, 0, .inl (.int 0)), (1, 1, .istore_n 2, 2, 0, .inl .null), (2, 1, .iconst 0, 0, 0, .inl (.int 0)), (3, 1, .istore_n 3, 3, 0, .inl .null), (4, 1, .iload_n 3, 3, 0, .inl .null), (5, 1, .aload_n 0, 0, 0, .inl .null), (6, 3, .getfield 19, 3, 1, .inl .null), (9, 3, .getfield 107, 6, 0, .inl .null), (12, 3, .if_icmp .ge 32, 44, 0, .inl .null), (15, 1, .iload_n 2, 2, 0, .inl .null), (16, 1, .aload_n 0, 0, 0, .inl .null), (17, 3, .getfield 19, 3, 1, .inl .null), (20, 1, .iload_n 1, 1, 0, .inl .null), (21, 1, .iload_n 3, 3, 0, .inl .null), (22, 1, .isub, 0, 0, .inl .null), (23, 3, .invokevirtual 125, 46, 98, .inr (1, 0, 0)), (26, 1, .aload_n 0, 0, 0, .inl .null), (27, 3, .getfield 19, 3, 1, .inl .null), (30, 3, .getfield 135, 6, 4, .inl .null), (33, 1, .iload_n 3, 3, 0, .inl .null), (34, 1, .iaload, 0, 0, .inl .null), (35, 1, .imul, 0, 0, .inl .null), (36, 1, .iadd, 0, 0, .inl .null), (37, 1, .istore_n 2, 2, 0, .inl .null), (38, 3, .iinc 3 1, 3, 0, .inl (.int 1)), (41, 3, .goto (-37), 4, 0, .inl .null), (44, 1, .iload_n 2, 2, 0, .inl .null), (45, 1, .ireturn, 0, 0, .inl .null)]
def cd_X7_aroundCircle : List gE := [(0, 1, .aload_n 0, 0, 0, .inl .null), (1, 3, .getfield 19, 3, 1, .inl .null), (4, 3, .getfield 107, 6, 0, .inl .null), (7, 1, .istore_n 2, 2, 0, .inl .null), (8, 1, .iload_n 1, 1, 0, .inl .null), (9, 1, .iconst 2, 0, 0, .inl (.int 2)), (10, 1, .iload_n 2, 2, 0, .inl .null), (11, 1, .imul, 0, 0, .inl .null), (12, 3, .invokestatic 353, 121, 2, .inr (1, 0, 0)), (15, 1, .istore_n 3, 3, 0, .inl .null), (16, 1, .iload_n 3, 3, 0, .inl .null), (17, 1, .iload_n 2, 2, 0, .inl .null), (18, 3, .if_icmp .ne 5, 23, 0, .inl .null), (21, 1, .iconst 0, 0, 0, .inl (.int 0)), (22, 1, .ireturn, 0, 0, .inl .null), (23, 1, .aload_n 0, 0, 0, .inl .null), (24, 3, .getfield 19, 3, 1, .inl .null), (27, 1, .iload_n 3, 3, 0, .inl .null), (28, 1, .iload_n 2, 2, 0, .inl .null), (29, 3, .if_icmp .ge 7, 36, 0, .inl .null), (32, 1, .iload_n 3, 3, 0, .inl .null), (33, 3, .goto 8, 41, 0, .inl .null), (36, 1, .iload_n 3, 3, 0, .inl .null), (37, 1, .iconst 2, 0, 0, .inl (.int 2)), (38, 1, .iload_n 2, 2, 0, .inl .null), (39, 1, .imul, 0, 0, .inl .null), (40, 1, .isub, 0, 0, .inl .null), (41, 3, .invokevirtual 125, 46, 98, .inr (1, 0, 0)), (44, 1, .ireturn, 0, 0, .inl .null)]
def cd_X8_next : List gE := [(0, 1, .aload_n 0, 0, 0, .inl .null), (1, 3, .getfield 13, 48, 1, .inl .null), (4, 1, .aload_n 0, 0, 0, .inl .null), (5, 3, .getfield 7, 48, 0, .inl .null), (8, 1, .arraylength, 0, 0, .inl .null), (9, 3, .if_icmp .ge 18, 27, 0, .inl .null), (12, 1, .aload_n 0, 0, 0, .inl .null), (13, 3, .getfield 7, 48, 0, .inl .null), (16, 1, .aload_n 0, 0, 0, .inl .null), (17, 3, .getfield 13, 48, 1, .inl .null), (20, 1, .iaload, 0, 0, .inl .null), (21, 2, .ldc 17, 0, 0, .inl (.int 2147483647)), (23, 1, .iand, 0, 0, .inl .null), (24, 3, .goto 4, 28, 0, .inl .null), (27, 1, .iconst 0, 0, 0, .inl (.int 0)), (28, 1, .istore_n 3, 3, 0, .inl .null), (29, 1, .aload_n 0, 0, 0, .inl .null), (30, 1, .dup, 0, 0, .inl .null), (31, 3, .getfield 13, 48, 1, .inl .null), (34, 1, .iconst 1, 0, 0, .inl (.int 1)), (35, 1, .iadd, 0, 0, .inl .null), (36, 3, .putfield 13, 48, 1, .inl .null), (39, 1, .iload_n 1, 1, 0, .inl .null), (40, 1, .iload_n 3, 3, 0, .inl .null), (41, 1, .iload_n 2, 2, 0, .inl .null), (42, 1, .iload_n 1, 1, 0, .inl .null), (43, 1, .isub, 0, 0, .inl .null), (44, 1, .iconst 1, 0, 0, .inl (.int 1)), (45, 1, .iadd, 0, 0, .inl .null), (46, 1, .irem, 0, 0, .inl .null), (47, 1, .iadd, 0, 0, .inl .null), (48, 1, .ireturn, 0, 0, .inl .null)]
def cd_X9_at : List gE := [(0, 1, .aload_n 0, 0, 0, .inl .null), (1, 3, .getfield 20, 49, 1, .inl .null), (4, 1, .iload_n 1, 1, 0, .inl .null), (5, 1, .iload_n 2, 2, 0, .inl .null), (6, 1, .isub, 0, 0, .inl .null), (7, 2, .bipush 6, 0, 0, .inl (.int 6)), (9, 1, .iadd, 0, 0, .inl .null), (10, 1, .iaload, 0, 0, .inl .null), (11, 1, .ireturn, 0, 0, .inl .null)]
def cd_X9_mod : List gE := [(0, 1, .lload_n 1, 1, 0, .inl .null), (1, 1, .iload_n 3, 3, 0, .inl .null), (2, 1, .i2l, 0, 0, .inl .null), (3, 1, .lrem, 0, 0, .inl .null), (4, 1, .iload_n 3, 3, 0, .inl .null), (5, 1, .i2l, 0, 0, .inl .null), (6, 1, .ladd, 0, 0, .inl .null), (7, 1, .iload_n 3, 3, 0, .inl .null), (8, 1, .i2l, 0, 0, .inl .null), (9, 1, .lrem, 0, 0, .inl .null), (10, 1, .l2i, 0, 0, .inl .null), (11, 1, .ireturn, 0, 0, .inl .null)]
def cd_X9_mod_ : List gE := [(0, 1, .aload_n 0, 0, 0, .inl .null), (1, 1, .lload_n 1, 1, 0, .inl .null), (2, 1, .aload_n 0, 0, 0, .inl .null), (3, 3, .getfield 45, 49, 5, .inl .null), (6, 3, .invokevirtual 70, 133, 787, .inr (1, 0, 0)), (9, 1, .ireturn, 0, 0, .inl .null)]
def cd_X9_undone : List gE := [(0, 1, .iconst 1, 0, 0, .inl (.int 1)), (1, 1, .istore_n 2, 2, 0, .inl .null), (2, 1, .aload_n 0, 0, 0, .inl .null), (3, 1, .iload_n 1, 1, 0, .inl .null), (4, 1, .i2l, 0, 0, .inl .null), (5, 1, .iload_n 2, 2, 0, .inl .null), (6, 1, .i2l, 0, 0, .inl .null), (7, 1, .lmul, 0, 0, .inl .null), (8, 3, .invokevirtual 74, 134, 786, .inr (1, 0, 0)), (11, 1, .iconst 1, 0, 0, .inl (.int 1)), (12, 3, .if_icmp .eq 9, 21, 0, .inl .null), (15, 3, .iinc 2 1, 2, 0, .inl (.int 1)), (18, 3, .goto (-16), 2, 0, .inl .null), (21, 1, .iload_n 2, 2, 0, .inl .null), (22, 1, .ireturn, 0, 0, .inl .null)]
def cd_X9_det0 : List gE := [(0, 1, .iload_n 1, 1, 0, .inl .null), (1, 3, .ifCond .ne 5, 6, 0, .inl .null), (4, 1, .lconst 1, 0, 0, .inl (.long 1)), (5, 1, .lreturn, 0, 0, .inl .null)]
def cd_X9_det1 : List gE := [(0, 1, .iload_n 1, 1, 0, .inl .null), (1, 3, .ifCond .ne 5, 6, 0, .inl .null), (4, 1, .lconst 1, 0, 0, .inl (.long 1)), (5, 1, .lreturn, 0, 0, .inl .null), (6, 1, .iload_n 1, 1, 0, .inl .null), (7, 3, .invokestatic 77, 171, 1, .inr (1, 0, 0)), (10, 1, .istore_n 3, 3, 0, .inl .null), (11, 1, .lconst 0, 0, 0, .inl (.long 0)), (12, 2, .lstore 4, 4, 0, .inl .null), (14, 1, .lconst 1, 0, 0, .inl (.long 1)), (15, 2, .lstore 6, 6, 0, .inl .null), (17, 1, .iconst 0, 0, 0, .inl (.int 0)), (18, 2, .istore 8, 8, 0, .inl .null), (20, 2, .iload 8, 8, 0, .inl .null), (22, 1, .aload_n 0, 0, 0, .inl .null), (23, 3, .getfield 36, 49, 4, .inl .null), (26, 3, .if_icmp .ge 60, 86, 0, .inl .null), (29, 1, .iload_n 2, 2, 0, .inl .null), (30, 2, .iload 8, 8, 0, .inl .null), (32, 1, .ishr, 0, 0, .inl .null), (33, 1, .iconst 1, 0, 0, .inl (.int 1)), (34, 1, .iand, 0, 0, .inl .null), (35, 3, .ifCond .ne 6, 41, 0, .inl .null), (38, 3, .goto 42, 80, 0, .inl .null), (41, 2, .lload 4, 4, 0, .inl .null), (43, 2, .lload 6, 6, 0, .inl .null), (45, 1, .aload_n 0, 0, 0, .inl .null), (46, 1, .iload_n 3, 3, 0, .inl .null), (47, 2, .iload 8, 8, 0, .inl .null), (49, 3, .invokevirtual 83, 132, 787, .inr (1, 0, 0)), (52, 1, .i2l, 0, 0, .inl .null), (53, 1, .lmul, 0, 0, .inl .null), (54, 1, .aload_n 0, 0, 0, .inl .null), (55, 1, .iload_n 1, 1, 0, .inl .null), (56, 1, .iload_n 1, 1, 0, .inl .null), (57, 1, .iconst 1, 0, 0, .inl (.int 1)), (58, 1, .isub, 0, 0, .inl .null), (59, 1, .iand, 0, 0, .inl .null), (60, 1, .iload_n 2, 2, 0, .inl .null), (61, 1, .iconst 1, 0, 0, .inl (.int 1)), (62, 2, .iload 8, 8, 0, .inl .null), (64, 1, .ishl, 0, 0, .inl .null), (65, 1, .iconst (-1), 0, 0, .inl (.int (-1))), (66, 1, .ixor, 0, 0, .inl .null), (67, 1, .iand, 0, 0, .inl .null), (68, 3, .invokevirtual 86, 136, 787, .inr (2, 0, 0)), (71, 1, .lmul, 0, 0, .inl .null), (72, 1, .ladd, 0, 0, .inl .null), (73, 2, .lstore 4, 4, 0, .inl .null), (75, 2, .lload 6, 6, 0, .inl .null), (77, 1, .lneg, 0, 0, .inl .null), (78, 2, .lstore 6, 6, 0, .inl .null), (80, 3, .iinc 8 1, 8, 0, .inl (.int 1)), (83, 3, .goto (-63), 20, 0, .inl .null), (86, 2, .lload 4, 4, 0, .inl .null), (88, 1, .lreturn, 0, 0, .inl .null)]
def cd_X9_det2 : List gE := [(0, 1, .iload_n 1, 1, 0, .inl .null), (1, 3, .ifCond .ne 5, 6, 0, .inl .null), (4, 1, .lconst 1, 0, 0, .inl (.long 1)), (5, 1, .lreturn, 0, 0, .inl .null), (6, 1, .iload_n 1, 1, 0, .inl .null), (7, 3, .invokestatic 77, 171, 1, .inr (1, 0, 0)), (10, 1, .istore_n 3, 3, 0, .inl .null), (11, 1, .lconst 0, 0, 0, .inl (.long 0)), (12, 2, .lstore 4, 4, 0, .inl .null), (14, 1, .lconst 1, 0, 0, .inl (.long 1)), (15, 2, .lstore 6, 6, 0, .inl .null), (17, 1, .iconst 0, 0, 0, .inl (.int 0)), (18, 2, .istore 8, 8, 0, .inl .null), (20, 2, .iload 8, 8, 0, .inl .null), (22, 1, .aload_n 0, 0, 0, .inl .null), (23, 3, .getfield 36, 49, 4, .inl .null), (26, 3, .if_icmp .ge 60, 86, 0, .inl .null), (29, 1, .iload_n 2, 2, 0, .inl .null), (30, 2, .iload 8, 8, 0, .inl .null), (32, 1, .ishr, 0, 0, .inl .null), (33, 1, .iconst 1, 0, 0, .inl (.int 1)), (34, 1, .iand, 0, 0, .inl .null), (35, 3, .ifCond .ne 6, 41, 0, .inl .null), (38, 3, .goto 42, 80, 0, .inl .null), (41, 2, .lload 4, 4, 0, .inl .null), (43, 2, .lload 6, 6, 0, .inl .null), (45, 1, .aload_n 0, 0, 0, .inl .null), (46, 1, .iload_n 3, 3, 0, .inl .null), (47, 2, .iload 8, 8, 0, .inl .null), (49, 3, .invokevirtual 83, 132, 787, .inr (1, 0, 0)), (52, 1, .i2l, 0, 0, .inl .null), (53, 1, .lmul, 0, 0, .inl .null), (54, 1, .aload_n 0, 0, 0, .inl .null), (55, 1, .iload_n 1, 1, 0, .inl .null), (56, 1, .iload_n 1, 1, 0, .inl .null), (57, 1, .iconst 1, 0, 0, .inl (.int 1)), (58, 1, .isub, 0, 0, .inl .null), (59, 1, .iand, 0, 0, .inl .null), (60, 1, .iload_n 2, 2, 0, .inl .null), (61, 1, .iconst 1, 0, 0, .inl (.int 1)), (62, 2, .iload 8, 8, 0, .inl .null), (64, 1, .ishl, 0, 0, .inl .null), (65, 1, .iconst (-1), 0, 0, .inl (.int (-1))), (66, 1, .ixor, 0, 0, .inl .null), (67, 1, .iand, 0, 0, .inl .null), (68, 3, .invokevirtual 86, 137, 787, .inr (2, 0, 0)), (71, 1, .lmul, 0, 0, .inl .null), (72, 1, .ladd, 0, 0, .inl .null), (73, 2, .lstore 4, 4, 0, .inl .null), (75, 2, .lload 6, 6, 0, .inl .null), (77, 1, .lneg, 0, 0, .inl .null), (78, 2, .lstore 6, 6, 0, .inl .null), (80, 3, .iinc 8 1, 8, 0, .inl (.int 1)), (83, 3, .goto (-63), 20, 0, .inl .null), (86, 2, .lload 4, 4, 0, .inl .null), (88, 1, .lreturn, 0, 0, .inl .null)]
def cd_X9_det3 : List gE := [(0, 1, .iload_n 1, 1, 0, .inl .null), (1, 3, .ifCond .ne 5, 6, 0, .inl .null), (4, 1, .lconst 1, 0, 0, .inl (.long 1)), (5, 1, .lreturn, 0, 0, .inl .null), (6, 1, .iload_n 1, 1, 0, .inl .null), (7, 3, .invokestatic 77, 171, 1, .inr (1, 0, 0)), (10, 1, .istore_n 3, 3, 0, .inl .null), (11, 1, .lconst 0, 0, 0, .inl (.long 0)), (12, 2, .lstore 4, 4, 0, .inl .null), (14, 1, .lconst 1, 0, 0, .inl (.long 1)), (15, 2, .lstore 6, 6, 0, .inl .null), (17, 1, .iconst 0, 0, 0, .inl (.int 0)), (18, 2, .istore 8, 8, 0, .inl .null), (20, 2, .iload 8, 8, 0, .inl .null), (22, 1, .aload_n 0, 0, 0, .inl .null), (23, 3, .getfield 36, 49, 4, .inl .null), (26, 3, .if_icmp .ge 60, 86, 0, .inl .null), (29, 1, .iload_n 2, 2, 0, .inl .null), (30, 2, .iload 8, 8, 0, .inl .null), (32, 1, .ishr, 0, 0, .inl .null), (33, 1, .iconst 1, 0, 0, .inl (.int 1)), (34, 1, .iand, 0, 0, .inl .null), (35, 3, .ifCond .ne 6, 41, 0, .inl .null), (38, 3, .goto 42, 80, 0, .inl .null), (41, 2, .lload 4, 4, 0, .inl .null), (43, 2, .lload 6, 6, 0, .inl .null), (45, 1, .aload_n 0, 0, 0, .inl .null), (46, 1, .iload_n 3, 3, 0, .inl .null), (47, 2, .iload 8, 8, 0, .inl .null), (49, 3, .invokevirtual 83, 132, 787, .inr (1, 0, 0)), (52, 1, .i2l, 0, 0, .inl .null), (53, 1, .lmul, 0, 0, .inl .null), (54, 1, .aload_n 0, 0, 0, .inl .null), (55, 1, .iload_n 1, 1, 0, .inl .null), (56, 1, .iload_n 1, 1, 0, .inl .null), (57, 1, .iconst 1, 0, 0, .inl (.int 1)), (58, 1, .isub, 0, 0, .inl .null), (59, 1, .iand, 0, 0, .inl .null), (60, 1, .iload_n 2, 2, 0, .inl .null), (61, 1, .iconst 1, 0, 0, .inl (.int 1)), (62, 2, .iload 8, 8, 0, .inl .null), (64, 1, .ishl, 0, 0, .inl .null), (65, 1, .iconst (-1), 0, 0, .inl (.int (-1))), (66, 1, .ixor, 0, 0, .inl .null), (67, 1, .iand, 0, 0, .inl .null), (68, 3, .invokevirtual 86, 138, 787, .inr (2, 0, 0)), (71, 1, .lmul, 0, 0, .inl .null), (72, 1, .ladd, 0, 0, .inl .null), (73, 2, .lstore 4, 4, 0, .inl .null), (75, 2, .lload 6, 6, 0, .inl .null), (77, 1, .lneg, 0, 0, .inl .null), (78, 2, .lstore 6, 6, 0, .inl .null), (80, 3, .iinc 8 1, 8, 0, .inl (.int 1)), (83, 3, .goto (-63), 20, 0, .inl .null), (86, 2, .lload 4, 4, 0, .inl .null), (88, 1, .lreturn, 0, 0, .inl .null)]
def cd_X9_det4 : List gE := [(0, 1, .iload_n 1, 1, 0, .inl .null), (1, 3, .ifCond .ne 5, 6, 0, .inl .null), (4, 1, .lconst 1, 0, 0, .inl (.long 1)), (5, 1, .lreturn, 0, 0, .inl .null), (6, 1, .iload_n 1, 1, 0, .inl .null), (7, 3, .invokestatic 77, 171, 1, .inr (1, 0, 0)), (10, 1, .istore_n 3, 3, 0, .inl .null), (11, 1, .lconst 0, 0, 0, .inl (.long 0)), (12, 2, .lstore 4, 4, 0, .inl .null), (14, 1, .lconst 1, 0, 0, .inl (.long 1)), (15, 2, .lstore 6, 6, 0, .inl .null), (17, 1, .iconst 0, 0, 0, .inl (.int 0)), (18, 2, .istore 8, 8, 0, .inl .null), (20, 2, .iload 8, 8, 0, .inl .null), (22, 1, .aload_n 0, 0, 0, .inl .null), (23, 3, .getfield 36, 49, 4, .inl .null), (26, 3, .if_icmp .ge 60, 86, 0, .inl .null), (29, 1, .iload_n 2, 2, 0, .inl .null), (30, 2, .iload 8, 8, 0, .inl .null), (32, 1, .ishr, 0, 0, .inl .null), (33, 1, .iconst 1, 0, 0, .inl (.int 1)), (34, 1, .iand, 0, 0, .inl .null), (35, 3, .ifCond .ne 6, 41, 0, .inl .null), (38, 3, .goto 42, 80, 0, .inl .null), (41, 2, .lload 4, 4, 0, .inl .null), (43, 2, .lload 6, 6, 0, .inl .null), (45, 1, .aload_n 0, 0, 0, .inl .null), (46, 1, .iload_n 3, 3, 0, .inl .null), (47, 2, .iload 8, 8, 0, .inl .null), (49, 3, .invokevirtual 83, 132, 787, .inr (1, 0, 0)), (52, 1, .i2l, 0, 0, .inl .null), (53, 1, .lmul, 0, 0, .inl .null), (54, 1, .aload_n 0, 0, 0, .inl .null), (55, 1, .iload_n 1, 1, 0, .inl .null), (56, 1, .iload_n 1, 1, 0, .inl .null), (57, 1, .iconst 1, 0, 0, .inl (.int 1)), (58, 1, .isub, 0, 0, .inl .null), (59, 1, .iand, 0, 0, .inl .null), (60, 1, .iload_n 2, 2, 0, .inl .null), (61, 1, .iconst 1, 0, 0, .inl (.int 1)), (62, 2, .iload 8, 8, 0, .inl .null), (64, 1, .ishl, 0, 0, .inl .null), (65, 1, .iconst (-1), 0, 0, .inl (.int (-1))), (66, 1, .ixor, 0, 0, .inl .null), (67, 1, .iand, 0, 0, .inl .null), (68, 3, .invokevirtual 86, 139, 787, .inr (2, 0, 0)), (71, 1, .lmul, 0, 0, .inl .null), (72, 1, .ladd, 0, 0, .inl .null), (73, 2, .lstore 4, 4, 0, .inl .null), (75, 2, .lload 6, 6, 0, .inl .null), (77, 1, .lneg, 0, 0, .inl .null), (78, 2, .lstore 6, 6, 0, .inl .null), (80, 3, .iinc 8 1, 8, 0, .inl (.int 1)), (83, 3, .goto (-63), 20, 0, .inl .null), (86, 2, .lload 4, 4, 0, .inl .null), (88, 1, .lreturn, 0, 0, .inl .null)]
def cd_X9_det5 : List gE := [(0, 1, .iload_n 1, 1, 0, .inl .null), (1, 3, .ifCond .ne 5, 6, 0, .inl .null), (4, 1, .lconst 1, 0, 0, .inl (.long 1)), (5, 1, .lreturn, 0, 0, .inl .null), (6, 1, .iload_n 1, 1, 0, .inl .null), (7, 3, .invokestatic 77, 171, 1, .inr (1, 0, 0)), (10, 1, .istore_n 3, 3, 0, .inl .null), (11, 1, .lconst 0, 0, 0, .inl (.long 0)), (12, 2, .lstore 4, 4, 0, .inl .null), (14, 1, .lconst 1, 0, 0, .inl (.long 1)), (15, 2, .lstore 6, 6, 0, .inl .null), (17, 1, .iconst 0, 0, 0, .inl (.int 0)), (18, 2, .istore 8, 8, 0, .inl .null), (20, 2, .iload 8, 8, 0, .inl .null), (22, 1, .aload_n 0, 0, 0, .inl .null), (23, 3, .getfield 36, 49, 4, .inl .null), (26, 3, .if_icmp .ge 60, 86, 0, .inl .null), (29, 1, .iload_n 2, 2, 0, .inl .null), (30, 2, .iload 8, 8, 0, .inl .null), (32, 1, .ishr, 0, 0, .inl .null), (33, 1, .iconst 1, 0, 0, .inl (.int 1)), (34, 1, .iand, 0, 0, .inl .null), (35, 3, .ifCond .ne 6, 41, 0, .inl .null), (38, 3, .goto 42, 80, 0, .inl .null), (41, 2, .lload 4, 4, 0, .inl .null), (43, 2, .lload 6, 6, 0, .inl .null), (45, 1, .aload_n 0, 0, 0, .inl .null), (46, 1, .iload_n 3, 3, 0, .inl .null), (47, 2, .iload 8, 8, 0, .inl .null), (49, 3, .invokevirtual 83, 132, 787, .inr (1, 0, 0)), (52, 1, .i2l, 0, 0, .inl .null), (53, 1, .lmul, 0, 0, .inl .null), (54, 1, .aload_n 0, 0, 0, .inl .null), (55, 1, .iload_n 1, 1, 0, .inl .null), (56, 1, .iload_n 1, 1, 0, .inl .null), (57, 1, .iconst 1, 0, 0, .inl (.int 1)), (58, 1, .isub, 0, 0, .inl .null), (59, 1, .iand, 0, 0, .inl .null), (60, 1, .iload_n 2, 2, 0, .inl .null), (61, 1, .iconst 1, 0, 0, .inl (.int 1)), (62, 2, .iload 8, 8, 0, .inl .null), (64, 1, .ishl, 0, 0, .inl .null), (65, 1, .iconst (-1), 0, 0, .inl (.int (-1))), (66, 1, .ixor, 0, 0, .inl .null), (67, 1, .iand, 0, 0, .inl .null), (68, 3, .invokevirtual 86, 140, 787, .inr (2, 0, 0)), (71, 1, .lmul, 0, 0, .inl .null), (72, 1, .ladd, 0, 0, .inl .null), (73, 2, .lstore 4, 4, 0, .inl .null), (75, 2, .lload 6, 6, 0, .inl .null), (77, 1, .lneg, 0, 0, .inl .null), (78, 2, .lstore 6, 6, 0, .inl .null), (80, 3, .iinc 8 1, 8, 0, .inl (.int 1)), (83, 3, .goto (-63), 20, 0, .inl .null), (86, 2, .lload 4, 4, 0, .inl .null), (88, 1, .lreturn, 0, 0, .inl .null)]
def cd_X9_first : List gE := [(0, 1, .iconst 1, 0, 0, .inl (.int 1)), (1, 1, .iload_n 1, 1, 0, .inl .null), (2, 1, .ishl, 0, 0, .inl .null), (3, 1, .iconst 1, 0, 0, .inl (.int 1)), (4, 1, .isub, 0, 0, .inl .null), (5, 1, .ireturn, 0, 0, .inl .null)]
def cd_X9_minor : List gE := [(0, 1, .aload_n 0, 0, 0, .inl .null), (1, 1, .aload_n 0, 0, 0, .inl .null), (2, 1, .aload_n 0, 0, 0, .inl .null), (3, 1, .iload_n 1, 1, 0, .inl .null), (4, 3, .invokevirtual 90, 142, 786, .inr (1, 0, 0)), (7, 1, .aload_n 0, 0, 0, .inl .null), (8, 1, .iload_n 1, 1, 0, .inl .null), (9, 3, .invokevirtual 90, 142, 786, .inr (1, 0, 0)), (12, 3, .invokevirtual 86, 141, 787, .inr (2, 0, 0)), (15, 3, .invokevirtual 74, 134, 786, .inr (1, 0, 0)), (18, 1, .ireturn, 0, 0, .inl .null)]
def cd_X9_isRegular : List gE := [(0, 1, .aload_n 0, 0, 0, .inl .null), (1, 1, .aload_n 0, 0, 0, .inl .null), (2, 3, .getfield 36, 49, 4, .inl .null), (5, 3, .invokevirtual 93, 143, 786, .inr (1, 0, 0)), (8, 3, .ifCond .eq 7, 15, 0, .inl .null), (11, 1, .iconst 1, 0, 0, .inl (.int 1)), (12, 3, .goto 4, 16, 0, .inl .null), (15, 1, .iconst 0, 0, 0, .inl (.int 0)), (16, 1, .ireturn, 0, 0, .inl .null)]
def cd_X9_areFree : List gE := [(0, 1, .iconst 0, 0, 0, .inl (.int 0)), (1, 1, .istore_n 2, 2, 0, .inl .null), (2, 1, .iload_n 2, 2, 0, .inl .null), (3, 1, .iconst 1, 0, 0, .inl (.int 1)), (4, 1, .aload_n 0, 0, 0, .inl .null), (5, 3, .getfield 36, 49, 4, .inl .null), (8, 1, .ishl, 0, 0, .inl .null), (9, 3, .if_icmp .ge 35, 44, 0, .inl .null), (12, 1, .iload_n 2, 2, 0, .inl .null), (13, 3, .invokestatic 96, 170, 1, .inr (1, 0, 0)), (16, 1, .iload_n 1, 1, 0, .inl .null), (17, 3, .invokestatic 96, 170, 1, .inr (1, 0, 0)), (20, 3, .if_icmp .ne 18, 38, 0, .inl .null), (23, 1, .aload_n 0, 0, 0, .inl .null), (24, 1, .aload_n 0, 0, 0, .inl .null), (25, 1, .iload_n 2, 2, 0, .inl .null), (26, 1, .iload_n 1, 1, 0, .inl .null), (27, 3, .invokevirtual 86, 141, 787, .inr (2, 0, 0)), (30, 3, .invokevirtual 74, 134, 786, .inr (1, 0, 0)), (33, 3, .ifCond .eq 5, 38, 0, .inl .null), (36, 1, .iconst 1, 0, 0, .inl (.int 1)), (37, 1, .ireturn, 0, 0, .inl .null), (38, 3, .iinc 2 1, 2, 0, .inl (.int 1)), (41, 3, .goto (-39), 2, 0, .inl .null), (44, 1, .iconst 0, 0, 0, .inl (.int 0)), (45, 1, .ireturn, 0, 0, .inl .null)]
def cd_X9_rank : List gE := [(0, 1, .iconst 0, 0, 0, .inl (.int 0)), (1, 1, .istore_n 1, 1, 0, .inl .null), (2, 1, .iconst 0, 0, 0, .inl (.int 0)), (3, 1, .istore_n 2, 2, 0, .inl .null), (4, 1, .iload_n 2, 2, 0, .inl .null), (5, 1, .iconst 1, 0, 0, .inl (.int 1)), (6, 1, .aload_n 0, 0, 0, .inl .null), (7, 3, .getfield 36, 49, 4, .inl .null), (10, 1, .ishl, 0, 0, .inl .null), (11, 3, .if_icmp .ge 30, 41, 0, .inl .null), (14, 1, .iload_n 2, 2, 0, .inl .null), (15, 3, .invokestatic 96, 170, 1, .inr (1, 0, 0)), (18, 1, .iload_n 1, 1, 0, .inl .null), (19, 3, .if_icmp .le 16, 35, 0, .inl .null), (22, 1, .aload_n 0, 0, 0, .inl .null), (23, 1, .iload_n 2, 2, 0, .inl .null), (24, 3, .invokevirtual 99, 145, 786, .inr (1, 0, 0)), (27, 3, .ifCond .eq 8, 35, 0, .inl .null), (30, 1, .iload_n 2, 2, 0, .inl .null), (31, 3, .invokestatic 96, 170, 1, .inr (1, 0, 0)), (34, 1, .istore_n 1, 1, 0, .inl .null), (35, 3, .iinc 2 1, 2, 0, .inl (.int 1)), (38, 3, .goto (-34), 4, 0, .inl .null), (41, 1, .iload_n 1, 1, 0, .inl .null), (42, 1, .ireturn, 0, 0, .inl .null)]
def cd_X9_product : List gE := [(0, 1, .iconst 0, 0, 0, .inl (.int 0)), (1, 1, .istore_n 2, 2, 0, .inl .null), (2, 1, .iconst 0, 0, 0, .inl (.int 0)), (3, 1, .istore_n 3, 3, 0, .inl .null), (4, 1, .iload_n 3, 3, 0, .inl .null), (5, 1, .aload_n 0, 0, 0, .inl .null), (6, 3, .getfield 36, 49, 4, .inl .null), (9, 3, .if_icmp .ge 25, 34, 0, .inl .null), (12, 1, .iload_n 2, 2, 0, .inl .null), (13, 1, .aload_n 0, 0, 0, .inl .null), (14, 1, .iload_n 1, 1, 0, .inl .null), (15, 1, .iload_n 3, 3, 0, .inl .null), (16, 3, .invokevirtual 83, 132, 787, .inr (1, 0, 0)), (19, 1, .aload_n 0, 0, 0, .inl .null), (20, 3, .getfield 27, 49, 3, .inl .null), (23, 1, .iload_n 3, 3, 0, .inl .null), (24, 1, .iaload, 0, 0, .inl .null), (25, 1, .imul, 0, 0, .inl .null), (26, 1, .iadd, 0, 0, .inl .null), (27, 1, .istore_n 2, 2, 0, .inl .null), (28, 3, .iinc 3 1, 3, 0, .inl (.int 1)), (31, 3, .goto (-27), 4, 0, .inl .null), (34, 1, .iload_n 2, 2, 0, .inl .null), (35, 1, .ireturn, 0, 0, .inl .null)]
def cd_L_feeds : List gE := [(0, 1, .iconst 0, 0, 0, .inl (.int 0)), (1, 1, .istore_n 2, 2, 0, .inl .null), (2, 1, .iload_n 2, 2, 0, .inl .null), (3, 1, .aload_n 1, 1, 0, .inl .null), (4, 3, .invokevirtual 7, 311, 33, .inr (1, 0, 0)), (7, 3, .if_icmp .ge 93, 100, 0, .inl .null), (10, 1, .iconst 5, 0, 0, .inl (.int 5)), (11, 2, .newarray .int, 54, 5, .inl .null), (13, 1, .astore_n 3, 3, 0, .inl .null), (14, 1, .iconst 0, 0, 0, .inl (.int 0)), (15, 2, .istore 4, 4, 0, .inl .null), (17, 2, .iload 4, 4, 0, .inl .null), (19, 2, .bipush 20, 0, 0, .inl (.int 20)), (21, 3, .if_icmp .ge 49, 70, 0, .inl .null), (24, 1, .aload_n 3, 3, 0, .inl .null), (25, 2, .iload 4, 4, 0, .inl .null), (27, 1, .iconst 4, 0, 0, .inl (.int 4)), (28, 1, .idiv, 0, 0, .inl .null), (29, 1, .aload_n 3, 3, 0, .inl .null), (30, 2, .iload 4, 4, 0, .inl .null), (32, 1, .iconst 4, 0, 0, .inl (.int 4)), (33, 1, .idiv, 0, 0, .inl .null), (34, 1, .iaload, 0, 0, .inl .null), (35, 2, .bipush 8, 0, 0, .inl (.int 8)), (37, 1, .ishl, 0, 0, .inl .null), (38, 1, .iload_n 2, 2, 0, .inl .null), (39, 2, .iload 4, 4, 0, .inl .null), (41, 1, .iadd, 0, 0, .inl .null), (42, 1, .aload_n 1, 1, 0, .inl .null), (43, 3, .invokevirtual 7, 311, 33, .inr (1, 0, 0)), (46, 3, .if_icmp .ge 14, 60, 0, .inl .null), (49, 1, .aload_n 1, 1, 0, .inl .null), (50, 1, .iload_n 2, 2, 0, .inl .null), (51, 2, .iload 4, 4, 0, .inl .null), (53, 1, .iadd, 0, 0, .inl .null), (54, 3, .invokevirtual 13, 312, 34, .inr (1, 0, 0)), (57, 3, .goto 5, 62, 0, .inl .null), (60, 2, .bipush 32, 0, 0, .inl (.int 32)), (62, 1, .ior, 0, 0, .inl .null), (63, 1, .iastore, 0, 0, .inl .null), (64, 3, .iinc 4 1, 4, 0, .inl (.int 1)), (67, 3, .goto (-50), 17, 0, .inl .null), (70, 1, .aload_n 0, 0, 0, .inl .null), (71, 1, .aload_n 3, 3, 0, .inl .null), (72, 1, .iconst 0, 0, 0, .inl (.int 0)), (73, 1, .iaload, 0, 0, .inl .null), (74, 1, .aload_n 3, 3, 0, .inl .null), (75, 1, .iconst 1, 0, 0, .inl (.int 1)), (76, 1, .iaload, 0, 0, .inl .null), (77, 1, .aload_n 3, 3, 0, .inl .null), (78, 1, .iconst 2, 0, 0, .inl (.int 2)), (79, 1, .iaload, 0, 0, .inl .null), (80, 1, .aload_n 3, 3, 0, .inl .null), (81, 1, .iconst 3, 0, 0, .inl (.int 3)), (82, 1, .iaload, 0, 0, .inl .null), (83, 1, .aload_n 3, 3, 0, .inl .null), (84, 1, .iconst 4, 0, 0, .inl (.int 4)), (85, 1, .iaload, 0, 0, .inl .null), (86, 3, .invokevirtual 17, 52, 54, .inr (1, 0, 0)), (89, 3, .ifCond .ge 5, 94, 0, .inl .null), (92, 1, .iconst 0, 0, 0, .inl (.int 0)), (93, 1, .ireturn, 0, 0, .inl .null), (94, 3, .iinc 2 20, 2, 0, .inl (.int 20)), (97, 3, .goto (-95), 2, 0, .inl .null), (100, 1, .iconst 1, 0, 0, .inl (.int 1)), (101, 1, .ireturn, 0, 0, .inl .null)]
def cd_L_tell : List gE := [(0, 1, .aload_n 0, 0, 0, .inl .null), (1, 1, .aload_n 1, 1, 0, .inl .null), (2, 3, .invokestatic 23, 148, 2, .inr (1, 20, 100)), (5, 3, .ifCond .eq 14, 19, 0, .inl .null), (8, 1, .aload_n 0, 0, 0, .inl .null), (9, 1, .aload_n 1, 1, 0, .inl .null), (10, 3, .invokevirtual 7, 311, 33, .inr (1, 0, 0)), (13, 3, .invokevirtual 29, 53, 50, .inr (1, 1, 6)), (16, 3, .goto 5, 21, 0, .inl .null), (19, 2, .bipush (-9), 0, 0, .inl (.int (-9))), (21, 1, .ireturn, 0, 0, .inl .null)]
def cd_L_calls : List gE := [(0, 1, .iload_n 1, 1, 0, .inl .null), (1, 151, .tableswitch 409 0 33 #[151, 158, 166, 173, 180, 187, 194, 204, 214, 224, 231, 242, 249, 257, 264, 272, 279, 285, 292, 299, 307, 314, 322, 330, 338, 346, 353, 363, 369, 375, 382, 388, 395, 402], 0, 0, .inl .null), (152, 1, .aload_n 0, 0, 0, .inl .null), (153, 1, .iload_n 2, 2, 0, .inl .null), (154, 3, .invokevirtual 33, 59, 50, .inr (1, 2, 12)), (157, 1, .i2l, 0, 0, .inl .null), (158, 1, .lreturn, 0, 0, .inl .null), (159, 1, .aload_n 0, 0, 0, .inl .null), (160, 1, .iload_n 2, 2, 0, .inl .null), (161, 1, .iload_n 3, 3, 0, .inl .null), (162, 3, .invokevirtual 36, 60, 51, .inr (1, 3, 18)), (165, 1, .i2l, 0, 0, .inl .null), (166, 1, .lreturn, 0, 0, .inl .null), (167, 1, .aload_n 0, 0, 0, .inl .null), (168, 1, .iload_n 2, 2, 0, .inl .null), (169, 3, .invokevirtual 40, 61, 50, .inr (1, 2, 12)), (172, 1, .i2l, 0, 0, .inl .null), (173, 1, .lreturn, 0, 0, .inl .null), (174, 1, .aload_n 0, 0, 0, .inl .null), (175, 1, .iload_n 2, 2, 0, .inl .null), (176, 3, .invokevirtual 43, 62, 50, .inr (1, 2, 12)), (179, 1, .i2l, 0, 0, .inl .null), (180, 1, .lreturn, 0, 0, .inl .null), (181, 1, .aload_n 0, 0, 0, .inl .null), (182, 1, .iload_n 2, 2, 0, .inl .null), (183, 3, .invokevirtual 46, 63, 50, .inr (1, 2, 12)), (186, 1, .i2l, 0, 0, .inl .null), (187, 1, .lreturn, 0, 0, .inl .null), (188, 1, .aload_n 0, 0, 0, .inl .null), (189, 1, .iload_n 2, 2, 0, .inl .null), (190, 3, .invokevirtual 49, 67, 50, .inr (1, 2, 12)), (193, 1, .i2l, 0, 0, .inl .null), (194, 1, .lreturn, 0, 0, .inl .null), (195, 1, .aload_n 0, 0, 0, .inl .null), (196, 1, .iload_n 2, 2, 0, .inl .null), (197, 1, .iload_n 3, 3, 0, .inl .null), (198, 2, .iload 4, 4, 0, .inl .null), (200, 3, .invokevirtual 52, 71, 52, .inr (1, 4, 24)), (203, 1, .i2l, 0, 0, .inl .null), (204, 1, .lreturn, 0, 0, .inl .null), (205, 1, .aload_n 0, 0, 0, .inl .null), (206, 1, .iload_n 2, 2, 0, .inl .null), (207, 1, .iload_n 3, 3, 0, .inl .null), (208, 2, .iload 4, 4, 0, .inl .null), (210, 3, .invokevirtual 56, 72, 52, .inr (1, 4, 24)), (213, 1, .i2l, 0, 0, .inl .null), (214, 1, .lreturn, 0, 0, .inl .null), (215, 1, .aload_n 0, 0, 0, .inl .null), (216, 1, .iload_n 2, 2, 0, .inl .null), (217, 1, .iload_n 3, 3, 0, .inl .null), (218, 2, .iload 4, 4, 0, .inl .null), (220, 3, .invokevirtual 59, 73, 52, .inr (1, 4, 24)), (223, 1, .i2l, 0, 0, .inl .null), (224, 1, .lreturn, 0, 0, .inl .null), (225, 1, .aload_n 0, 0, 0, .inl .null), (226, 1, .iload_n 2, 2, 0, .inl .null), (227, 3, .invokevirtual 62, 74, 50, .inr (1, 2, 12)), (230, 1, .i2l, 0, 0, .inl .null), (231, 1, .lreturn, 0, 0, .inl .null), (232, 1, .aload_n 0, 0, 0, .inl .null), (233, 1, .iload_n 2, 2, 0, .inl .null), (234, 1, .iload_n 3, 3, 0, .inl .null), (235, 2, .iload 4, 4, 0, .inl .null), (237, 1, .iconst 1, 0, 0, .inl (.int 1)), (238, 3, .invokevirtual 65, 75, 53, .inr (1, 4, 24)), (241, 1, .i2l, 0, 0, .inl .null), (242, 1, .lreturn, 0, 0, .inl .null), (243, 1, .aload_n 0, 0, 0, .inl .null), (244, 1, .iload_n 2, 2, 0, .inl .null), (245, 3, .invokevirtual 69, 77, 50, .inr (1, 3, 18)), (248, 1, .i2l, 0, 0, .inl .null), (249, 1, .lreturn, 0, 0, .inl .null), (250, 1, .aload_n 0, 0, 0, .inl .null), (251, 1, .iload_n 2, 2, 0, .inl .null), (252, 1, .iload_n 3, 3, 0, .inl .null), (253, 3, .invokevirtual 72, 78, 51, .inr (1, 4, 24)), (256, 1, .i2l, 0, 0, .inl .null), (257, 1, .lreturn, 0, 0, .inl .null), (258, 1, .aload_n 0, 0, 0, .inl .null), (259, 1, .iload_n 2, 2, 0, .inl .null), (260, 3, .invokevirtual 75, 79, 50, .inr (1, 3, 18)), (263, 1, .i2l, 0, 0, .inl .null), (264, 1, .lreturn, 0, 0, .inl .null), (265, 1, .aload_n 0, 0, 0, .inl .null), (266, 1, .iload_n 2, 2, 0, .inl .null), (267, 1, .iload_n 3, 3, 0, .inl .null), (268, 3, .invokevirtual 78, 83, 51, .inr (1, 3, 18)), (271, 1, .i2l, 0, 0, .inl .null), (272, 1, .lreturn, 0, 0, .inl .null), (273, 1, .aload_n 0, 0, 0, .inl .null), (274, 1, .iload_n 2, 2, 0, .inl .null), (275, 3, .invokevirtual 81, 84, 50, .inr (1, 2, 12)), (278, 1, .i2l, 0, 0, .inl .null), (279, 1, .lreturn, 0, 0, .inl .null), (280, 1, .aload_n 0, 0, 0, .inl .null), (281, 1, .iload_n 2, 2, 0, .inl .null), (282, 3, .invokevirtual 84, 85, 50, .inr (2, 2, 12)), (285, 1, .lreturn, 0, 0, .inl .null), (286, 1, .aload_n 0, 0, 0, .inl .null), (287, 1, .iload_n 2, 2, 0, .inl .null), (288, 3, .invokevirtual 88, 87, 50, .inr (1, 3, 18)), (291, 1, .i2l, 0, 0, .inl .null), (292, 1, .lreturn, 0, 0, .inl .null), (293, 1, .aload_n 0, 0, 0, .inl .null), (294, 1, .iload_n 2, 2, 0, .inl .null), (295, 3, .invokevirtual 91, 92, 50, .inr (1, 2, 12)), (298, 1, .i2l, 0, 0, .inl .null), (299, 1, .lreturn, 0, 0, .inl .null), (300, 1, .aload_n 0, 0, 0, .inl .null), (301, 1, .iload_n 2, 2, 0, .inl .null), (302, 1, .iload_n 3, 3, 0, .inl .null), (303, 3, .invokevirtual 94, 93, 51, .inr (1, 3, 18)), (306, 1, .i2l, 0, 0, .inl .null), (307, 1, .lreturn, 0, 0, .inl .null), (308, 1, .aload_n 0, 0, 0, .inl .null), (309, 1, .iload_n 2, 2, 0, .inl .null), (310, 3, .invokevirtual 97, 94, 50, .inr (1, 2, 12)), (313, 1, .i2l, 0, 0, .inl .null), (314, 1, .lreturn, 0, 0, .inl .null), (315, 1, .aload_n 0, 0, 0, .inl .null), (316, 1, .iload_n 2, 2, 0, .inl .null), (317, 1, .iload_n 3, 3, 0, .inl .null), (318, 3, .invokevirtual 100, 97, 51, .inr (1, 2, 12)), (321, 1, .i2l, 0, 0, .inl .null), (322, 1, .lreturn, 0, 0, .inl .null), (323, 1, .aload_n 0, 0, 0, .inl .null), (324, 1, .iload_n 2, 2, 0, .inl .null), (325, 1, .iload_n 3, 3, 0, .inl .null), (326, 3, .invokevirtual 103, 98, 51, .inr (1, 10, 160)), (329, 1, .i2l, 0, 0, .inl .null), (330, 1, .lreturn, 0, 0, .inl .null), (331, 1, .aload_n 0, 0, 0, .inl .null), (332, 1, .iload_n 2, 2, 0, .inl .null), (333, 1, .iload_n 3, 3, 0, .inl .null), (334, 3, .invokevirtual 106, 99, 51, .inr (1, 10, 160)), (337, 1, .i2l, 0, 0, .inl .null), (338, 1, .lreturn, 0, 0, .inl .null), (339, 1, .aload_n 0, 0, 0, .inl .null), (340, 1, .iload_n 2, 2, 0, .inl .null), (341, 1, .iload_n 3, 3, 0, .inl .null), (342, 3, .invokevirtual 109, 100, 51, .inr (1, 10, 160)), (345, 1, .i2l, 0, 0, .inl .null), (346, 1, .lreturn, 0, 0, .inl .null), (347, 1, .aload_n 0, 0, 0, .inl .null), (348, 1, .iload_n 2, 2, 0, .inl .null), (349, 3, .invokevirtual 112, 101, 50, .inr (1, 9, 154)), (352, 1, .i2l, 0, 0, .inl .null), (353, 1, .lreturn, 0, 0, .inl .null), (354, 1, .aload_n 0, 0, 0, .inl .null), (355, 1, .iload_n 2, 2, 0, .inl .null), (356, 1, .iload_n 3, 3, 0, .inl .null), (357, 2, .iload 4, 4, 0, .inl .null), (359, 3, .invokevirtual 115, 102, 52, .inr (1, 12, 172)), (362, 1, .i2l, 0, 0, .inl .null), (363, 1, .lreturn, 0, 0, .inl .null), (364, 1, .aload_n 0, 0, 0, .inl .null), (365, 3, .invokevirtual 118, 103, 49, .inr (1, 9, 154)), (368, 1, .i2l, 0, 0, .inl .null), (369, 1, .lreturn, 0, 0, .inl .null), (370, 1, .aload_n 0, 0, 0, .inl .null), (371, 3, .invokevirtual 121, 104, 49, .inr (1, 10, 160)), (374, 1, .i2l, 0, 0, .inl .null), (375, 1, .lreturn, 0, 0, .inl .null), (376, 1, .aload_n 0, 0, 0, .inl .null), (377, 1, .iload_n 2, 2, 0, .inl .null), (378, 3, .invokevirtual 124, 105, 50, .inr (1, 10, 160)), (381, 1, .i2l, 0, 0, .inl .null), (382, 1, .lreturn, 0, 0, .inl .null), (383, 1, .aload_n 0, 0, 0, .inl .null), (384, 3, .invokevirtual 127, 106, 49, .inr (1, 1, 6)), (387, 1, .i2l, 0, 0, .inl .null), (388, 1, .lreturn, 0, 0, .inl .null), (389, 1, .aload_n 0, 0, 0, .inl .null), (390, 1, .iload_n 2, 2, 0, .inl .null), (391, 3, .invokevirtual 130, 108, 50, .inr (1, 9, 154)), (394, 1, .i2l, 0, 0, .inl .null), (395, 1, .lreturn, 0, 0, .inl .null), (396, 1, .aload_n 0, 0, 0, .inl .null), (397, 1, .iload_n 2, 2, 0, .inl .null), (398, 3, .invokevirtual 133, 109, 50, .inr (1, 2, 12)), (401, 1, .i2l, 0, 0, .inl .null), (402, 1, .lreturn, 0, 0, .inl .null), (403, 1, .aload_n 0, 0, 0, .inl .null), (404, 1, .iload_n 2, 2, 0, .inl .null), (405, 3, .invokevirtual 29, 53, 50, .inr (1, 1, 6)), (408, 1, .i2l, 0, 0, .inl .null), (409, 1, .lreturn, 0, 0, .inl .null), (410, 1, .aload_n 0, 0, 0, .inl .null), (411, 3, .invokevirtual 136, 64, 49, .inr (1, 1, 6)), (414, 1, .i2l, 0, 0, .inl .null), (415, 1, .lreturn, 0, 0, .inl .null)]
def cd_L_thrown : List gE := [(0, 1, .aload_n 0, 0, 0, .inl .null), (1, 1, .iload_n 1, 1, 0, .inl .null), (2, 1, .iload_n 2, 2, 0, .inl .null), (3, 1, .iload_n 3, 3, 0, .inl .null), (4, 2, .iload 4, 4, 0, .inl .null), (6, 3, .invokestatic 139, 150, 5, .inr (2, 154, 1824)), (9, 3, .ldc2_w 143, 0, 0, .inl (.long (-99))), (12, 1, .lcmp, 0, 0, .inl .null), (13, 3, .ifCond .ne 7, 20, 0, .inl .null), (16, 1, .iconst 0, 0, 0, .inl (.int 0)), (17, 3, .goto 4, 21, 0, .inl .null), (20, 1, .iconst 0, 0, 0, .inl (.int 0)), (21, 1, .ireturn, 0, 0, .inl .null), (22, 2, .astore 5, 5, 0, .inl .null), (24, 1, .iconst 1, 0, 0, .inl (.int 1)), (25, 1, .ireturn, 0, 0, .inl .null), (26, 2, .astore 5, 5, 0, .inl .null), (28, 1, .iconst 2, 0, 0, .inl (.int 2)), (29, 1, .ireturn, 0, 0, .inl .null), (30, 2, .astore 5, 5, 0, .inl .null), (32, 1, .iconst 3, 0, 0, .inl (.int 3)), (33, 1, .ireturn, 0, 0, .inl .null)]
def cd_L_isLike : List gE := [(0, 1, .aload_n 0, 0, 0, .inl .null), (1, 3, .invokevirtual 151, 57, 49, .inr (1, 0, 0)), (4, 1, .aload_n 1, 1, 0, .inl .null), (5, 3, .getfield 154, 49, 4, .inl .null), (8, 3, .if_icmp .ne 14, 22, 0, .inl .null), (11, 1, .aload_n 0, 0, 0, .inl .null), (12, 3, .invokevirtual 159, 58, 49, .inr (1, 0, 0)), (15, 1, .aload_n 1, 1, 0, .inl .null), (16, 3, .getfield 162, 49, 5, .inl .null), (19, 3, .if_icmp .eq 5, 24, 0, .inl .null), (22, 1, .iconst 0, 0, 0, .inl (.int 0)), (23, 1, .ireturn, 0, 0, .inl .null), (24, 1, .iconst 1, 0, 0, .inl (.int 1)), (25, 1, .aload_n 1, 1, 0, .inl .null), (26, 3, .getfield 154, 49, 4, .inl .null), (29, 1, .isub, 0, 0, .inl .null), (30, 1, .istore_n 2, 2, 0, .inl .null), (31, 1, .iload_n 2, 2, 0, .inl .null), (32, 1, .aload_n 1, 1, 0, .inl .null), (33, 3, .getfield 154, 49, 4, .inl .null), (36, 3, .if_icmp .ge 28, 64, 0, .inl .null), (39, 1, .aload_n 0, 0, 0, .inl .null), (40, 1, .iload_n 2, 2, 0, .inl .null), (41, 3, .invokevirtual 33, 59, 50, .inr (1, 2, 12)), (44, 1, .aload_n 1, 1, 0, .inl .null), (45, 3, .getfield 164, 49, 1, .inl .null), (48, 1, .iload_n 2, 2, 0, .inl .null), (49, 2, .bipush 6, 0, 0, .inl (.int 6)), (51, 1, .iadd, 0, 0, .inl .null), (52, 1, .iaload, 0, 0, .inl .null), (53, 3, .if_icmp .eq 5, 58, 0, .inl .null), (56, 1, .iconst 0, 0, 0, .inl (.int 0)), (57, 1, .ireturn, 0, 0, .inl .null), (58, 3, .iinc 2 1, 2, 0, .inl (.int 1)), (61, 3, .goto (-30), 31, 0, .inl .null), (64, 1, .iconst 1, 0, 0, .inl (.int 1)), (65, 1, .istore_n 2, 2, 0, .inl .null), (66, 1, .iconst 0, 0, 0, .inl (.int 0)), (67, 1, .istore_n 3, 3, 0, .inl .null), (68, 1, .iload_n 3, 3, 0, .inl .null), (69, 1, .aload_n 1, 1, 0, .inl .null), (70, 3, .getfield 154, 49, 4, .inl .null), (73, 3, .if_icmp .ge 111, 184, 0, .inl .null), (76, 1, .iload_n 2, 2, 0, .inl .null), (77, 1, .aload_n 1, 1, 0, .inl .null), (78, 1, .iload_n 3, 3, 0, .inl .null), (79, 3, .invokevirtual 167, 147, 786, .inr (1, 0, 0)), (82, 1, .aload_n 1, 1, 0, .inl .null), (83, 3, .getfield 168, 49, 2, .inl .null), (86, 1, .iload_n 3, 3, 0, .inl .null), (87, 1, .iaload, 0, 0, .inl .null), (88, 3, .if_icmp .ne 7, 95, 0, .inl .null), (91, 1, .iconst 1, 0, 0, .inl (.int 1)), (92, 3, .goto 4, 96, 0, .inl .null), (95, 1, .iconst 0, 0, 0, .inl (.int 0)), (96, 1, .iand, 0, 0, .inl .null), (97, 1, .istore_n 2, 2, 0, .inl .null), (98, 1, .aload_n 0, 0, 0, .inl .null), (99, 1, .iload_n 3, 3, 0, .inl .null), (100, 3, .invokevirtual 40, 61, 50, .inr (1, 2, 12)), (103, 1, .aload_n 1, 1, 0, .inl .null), (104, 3, .getfield 168, 49, 2, .inl .null), (107, 1, .iload_n 3, 3, 0, .inl .null), (108, 1, .iaload, 0, 0, .inl .null), (109, 3, .if_icmp .ne 30, 139, 0, .inl .null), (112, 1, .aload_n 0, 0, 0, .inl .null), (113, 1, .iload_n 3, 3, 0, .inl .null), (114, 3, .invokevirtual 43, 62, 50, .inr (1, 2, 12)), (117, 1, .aload_n 1, 1, 0, .inl .null), (118, 3, .getfield 170, 49, 3, .inl .null), (121, 1, .iload_n 3, 3, 0, .inl .null), (122, 1, .iaload, 0, 0, .inl .null), (123, 3, .if_icmp .ne 16, 139, 0, .inl .null), (126, 1, .aload_n 0, 0, 0, .inl .null), (127, 1, .iload_n 3, 3, 0, .inl .null), (128, 3, .invokevirtual 91, 92, 50, .inr (1, 2, 12)), (131, 1, .aload_n 1, 1, 0, .inl .null), (132, 1, .iload_n 3, 3, 0, .inl .null), (133, 3, .invokevirtual 167, 147, 786, .inr (1, 0, 0)), (136, 3, .if_icmp .eq 5, 141, 0, .inl .null), (139, 1, .iconst 0, 0, 0, .inl (.int 0)), (140, 1, .ireturn, 0, 0, .inl .null), (141, 1, .iconst 0, 0, 0, .inl (.int 0)), (142, 2, .istore 4, 4, 0, .inl .null), (144, 2, .iload 4, 4, 0, .inl .null), (146, 1, .aload_n 1, 1, 0, .inl .null), (147, 3, .getfield 154, 49, 4, .inl .null), (150, 3, .if_icmp .ge 28, 178, 0, .inl .null), (153, 1, .aload_n 0, 0, 0, .inl .null), (154, 1, .iload_n 3, 3, 0, .inl .null), (155, 2, .iload 4, 4, 0, .inl .null), (157, 3, .invokevirtual 36, 60, 51, .inr (1, 3, 18)), (160, 1, .aload_n 1, 1, 0, .inl .null), (161, 1, .iload_n 3, 3, 0, .inl .null), (162, 2, .iload 4, 4, 0, .inl .null), (164, 3, .invokevirtual 172, 132, 787, .inr (1, 0, 0)), (167, 3, .if_icmp .eq 5, 172, 0, .inl .null), (170, 1, .iconst 0, 0, 0, .inl (.int 0)), (171, 1, .ireturn, 0, 0, .inl .null), (172, 3, .iinc 4 1, 4, 0, .inl (.int 1)), (175, 3, .goto (-31), 144, 0, .inl .null), (178, 3, .iinc 3 1, 3, 0, .inl (.int 1)), (181, 3, .goto (-113), 68, 0, .inl .null), (184, 1, .aload_n 0, 0, 0, .inl .null), (185, 3, .invokevirtual 175, 95, 49, .inr (1, 1, 6)), (188, 1, .iload_n 2, 2, 0, .inl .null), (189, 3, .if_icmp .ne 7, 196, 0, .inl .null), (192, 1, .iconst 1, 0, 0, .inl (.int 1)), (193, 3, .goto 4, 197, 0, .inl .null), (196, 1, .iconst 0, 0, 0, .inl (.int 0)), (197, 1, .ireturn, 0, 0, .inl .null)]
def cd_L_act : List gE := [(0, 1, .aload_n 2, 2, 0, .inl .null), (1, 1, .iconst 0, 0, 0, .inl (.int 0)), (2, 2, .bipush 6, 0, 0, .inl (.int 6)), (4, 3, .invokevirtual 179, 131, 771, .inr (1, 0, 0)), (7, 1, .istore_n 3, 3, 0, .inl .null), (8, 1, .aload_n 2, 2, 0, .inl .null), (9, 1, .iconst 1, 0, 0, .inl (.int 1)), (10, 1, .aload_n 1, 1, 0, .inl .null), (11, 3, .getfield 154, 49, 4, .inl .null), (14, 1, .isub, 0, 0, .inl .null), (15, 1, .aload_n 1, 1, 0, .inl .null), (16, 3, .getfield 154, 49, 4, .inl .null), (19, 1, .iconst 1, 0, 0, .inl (.int 1)), (20, 1, .isub, 0, 0, .inl .null), (21, 3, .invokevirtual 179, 131, 771, .inr (1, 0, 0)), (24, 2, .istore 4, 4, 0, .inl .null), (26, 1, .aload_n 2, 2, 0, .inl .null), (27, 1, .iconst 0, 0, 0, .inl (.int 0)), (28, 1, .aload_n 1, 1, 0, .inl .null), (29, 3, .getfield 154, 49, 4, .inl .null), (32, 1, .iconst 1, 0, 0, .inl (.int 1)), (33, 1, .isub, 0, 0, .inl .null), (34, 3, .invokevirtual 179, 131, 771, .inr (1, 0, 0)), (37, 2, .istore 5, 5, 0, .inl .null), (39, 1, .aload_n 2, 2, 0, .inl .null), (40, 2, .bipush (-9), 0, 0, .inl (.int (-9))), (42, 2, .bipush 9, 0, 0, .inl (.int 9)), (44, 3, .invokevirtual 179, 131, 771, .inr (1, 0, 0)), (47, 2, .istore 6, 6, 0, .inl .null), (49, 1, .aload_n 2, 2, 0, .inl .null), (50, 2, .bipush (-9), 0, 0, .inl (.int (-9))), (52, 2, .bipush 9, 0, 0, .inl (.int 9)), (54, 3, .invokevirtual 179, 131, 771, .inr (1, 0, 0)), (57, 2, .istore 7, 7, 0, .inl .null), (59, 1, .iload_n 3, 3, 0, .inl .null), (60, 1, .iconst 2, 0, 0, .inl (.int 2)), (61, 3, .if_icmp .ge 53, 114, 0, .inl .null), (64, 1, .aload_n 1, 1, 0, .inl .null), (65, 3, .getfield 164, 49, 1, .inl .null), (68, 2, .iload 4, 4, 0, .inl .null), (70, 2, .bipush 6, 0, 0, .inl (.int 6)), (72, 1, .iadd, 0, 0, .inl .null), (73, 1, .iaload, 0, 0, .inl .null), (74, 2, .istore 8, 8, 0, .inl .null), (76, 1, .aload_n 1, 1, 0, .inl .null), (77, 3, .getfield 164, 49, 1, .inl .null), (80, 2, .iload 4, 4, 0, .inl .null), (82, 2, .bipush 6, 0, 0, .inl (.int 6)), (84, 1, .iadd, 0, 0, .inl .null), (85, 2, .iload 6, 6, 0, .inl .null), (87, 1, .iastore, 0, 0, .inl .null), (88, 1, .aload_n 0, 0, 0, .inl .null), (89, 2, .iload 4, 4, 0, .inl .null), (91, 2, .iload 6, 6, 0, .inl .null), (93, 3, .invokevirtual 103, 98, 51, .inr (1, 10, 160)), (96, 2, .iload 8, 8, 0, .inl .null), (98, 3, .if_icmp .ne 14, 112, 0, .inl .null), (101, 1, .aload_n 0, 0, 0, .inl .null), (102, 3, .invokevirtual 184, 81, 49, .inr (1, 1, 6)), (105, 3, .ifCond .ne 7, 112, 0, .inl .null), (108, 1, .iconst 1, 0, 0, .inl (.int 1)), (109, 3, .goto 4, 113, 0, .inl .null), (112, 1, .iconst 0, 0, 0, .inl (.int 0)), (113, 1, .ireturn, 0, 0, .inl .null), (114, 1, .iload_n 3, 3, 0, .inl .null), (115, 1, .iconst 2, 0, 0, .inl (.int 2)), (116, 3, .if_icmp .ne 58, 174, 0, .inl .null), (119, 1, .aload_n 1, 1, 0, .inl .null), (120, 3, .getfield 168, 49, 2, .inl .null), (123, 2, .iload 5, 5, 0, .inl .null), (125, 1, .iaload, 0, 0, .inl .null), (126, 2, .istore 8, 8, 0, .inl .null), (128, 1, .aload_n 1, 1, 0, .inl .null), (129, 3, .getfield 168, 49, 2, .inl .null), (132, 2, .iload 5, 5, 0, .inl .null), (134, 2, .iload 6, 6, 0, .inl .null), (136, 1, .iastore, 0, 0, .inl .null), (137, 1, .aload_n 0, 0, 0, .inl .null), (138, 2, .iload 5, 5, 0, .inl .null), (140, 2, .iload 6, 6, 0, .inl .null), (142, 3, .invokevirtual 106, 99, 51, .inr (1, 10, 160)), (145, 2, .iload 8, 8, 0, .inl .null), (147, 3, .if_icmp .ne 25, 172, 0, .inl .null), (150, 1, .aload_n 0, 0, 0, .inl .null), (151, 3, .invokevirtual 184, 81, 49, .inr (1, 1, 6)), (154, 3, .ifCond .ne 18, 172, 0, .inl .null), (157, 1, .aload_n 0, 0, 0, .inl .null), (158, 2, .iload 5, 5, 0, .inl .null), (160, 3, .invokevirtual 81, 84, 50, .inr (1, 2, 12)), (163, 2, .iload 6, 6, 0, .inl .null), (165, 3, .if_icmp .ne 7, 172, 0, .inl .null), (168, 1, .iconst 1, 0, 0, .inl (.int 1)), (169, 3, .goto 4, 173, 0, .inl .null), (172, 1, .iconst 0, 0, 0, .inl (.int 0)), (173, 1, .ireturn, 0, 0, .inl .null), (174, 1, .iload_n 3, 3, 0, .inl .null), (175, 1, .iconst 3, 0, 0, .inl (.int 3)), (176, 3, .if_icmp .ne 55, 231, 0, .inl .null), (179, 1, .aload_n 1, 1, 0, .inl .null), (180, 3, .getfield 170, 49, 3, .inl .null), (183, 2, .iload 5, 5, 0, .inl .null), (185, 1, .iaload, 0, 0, .inl .null), (186, 2, .istore 8, 8, 0, .inl .null), (188, 1, .aload_n 0, 0, 0, .inl .null), (189, 3, .invokevirtual 184, 81, 49, .inr (1, 1, 6)), (192, 2, .istore 9, 9, 0, .inl .null), (194, 1, .aload_n 1, 1, 0, .inl .null), (195, 3, .getfield 170, 49, 3, .inl .null), (198, 2, .iload 5, 5, 0, .inl .null), (200, 2, .iload 6, 6, 0, .inl .null), (202, 1, .iastore, 0, 0, .inl .null), (203, 1, .aload_n 0, 0, 0, .inl .null), (204, 2, .iload 5, 5, 0, .inl .null), (206, 2, .iload 6, 6, 0, .inl .null), (208, 3, .invokevirtual 109, 100, 51, .inr (1, 10, 160)), (211, 2, .iload 8, 8, 0, .inl .null), (213, 3, .if_icmp .ne 16, 229, 0, .inl .null), (216, 1, .aload_n 0, 0, 0, .inl .null), (217, 3, .invokevirtual 184, 81, 49, .inr (1, 1, 6)), (220, 2, .iload 9, 9, 0, .inl .null), (222, 3, .if_icmp .ne 7, 229, 0, .inl .null), (225, 1, .iconst 1, 0, 0, .inl (.int 1)), (226, 3, .goto 4, 230, 0, .inl .null), (229, 1, .iconst 0, 0, 0, .inl (.int 0)), (230, 1, .ireturn, 0, 0, .inl .null), (231, 1, .iload_n 3, 3, 0, .inl .null), (232, 1, .iconst 4, 0, 0, .inl (.int 4)), (233, 3, .if_icmp .ne 43, 276, 0, .inl .null), (236, 1, .aload_n 1, 1, 0, .inl .null), (237, 3, .getfield 162, 49, 5, .inl .null), (240, 2, .istore 8, 8, 0, .inl .null), (242, 1, .aload_n 1, 1, 0, .inl .null), (243, 3, .getstatic 187, 1, 0, .inr (1, 1, 0)), (246, 1, .aload_n 2, 2, 0, .inl .null), (247, 1, .iconst 0, 0, 0, .inl (.int 0)), (248, 2, .bipush 10, 0, 0, .inl (.int 10)), (250, 3, .invokevirtual 179, 131, 771, .inr (1, 0, 0)), (253, 1, .iaload, 0, 0, .inl .null), (254, 3, .putfield 162, 49, 5, .inl .null), (257, 1, .aload_n 0, 0, 0, .inl .null), (258, 1, .aload_n 1, 1, 0, .inl .null), (259, 3, .getfield 162, 49, 5, .inl .null), (262, 3, .invokevirtual 112, 101, 50, .inr (1, 9, 154)), (265, 2, .iload 8, 8, 0, .inl .null), (267, 3, .if_icmp .ne 7, 274, 0, .inl .null), (270, 1, .iconst 1, 0, 0, .inl (.int 1)), (271, 3, .goto 4, 275, 0, .inl .null), (274, 1, .iconst 0, 0, 0, .inl (.int 0)), (275, 1, .ireturn, 0, 0, .inl .null), (276, 1, .iload_n 3, 3, 0, .inl .null), (277, 1, .iconst 5, 0, 0, .inl (.int 5)), (278, 3, .if_icmp .ne 122, 400, 0, .inl .null), (281, 1, .aload_n 1, 1, 0, .inl .null), (282, 3, .getfield 154, 49, 4, .inl .null), (285, 1, .iconst 5, 0, 0, .inl (.int 5)), (286, 3, .if_icmp .ne 32, 318, 0, .inl .null), (289, 1, .aload_n 1, 1, 0, .inl .null), (290, 3, .getfield 154, 49, 4, .inl .null), (293, 2, .bipush 7, 0, 0, .inl (.int 7)), (295, 3, .if_icmp .eq 17, 312, 0, .inl .null), (298, 1, .aload_n 0, 0, 0, .inl .null), (299, 2, .bipush 26, 0, 0, .inl (.int 26)), (301, 2, .bipush 51, 0, 0, .inl (.int 51)), (303, 1, .iconst 0, 0, 0, .inl (.int 0)), (304, 1, .iconst 0, 0, 0, .inl (.int 0)), (305, 3, .invokestatic 190, 151, 5, .inr (1, 154, 1824)), (308, 1, .iconst 3, 0, 0, .inl (.int 3)), (309, 3, .if_icmp .ne 7, 316, 0, .inl .null), (312, 1, .iconst 1, 0, 0, .inl (.int 1)), (313, 3, .goto 4, 317, 0, .inl .null), (316, 1, .iconst 0, 0, 0, .inl (.int 0)), (317, 1, .ireturn, 0, 0, .inl .null), (318, 1, .aload_n 1, 1, 0, .inl .null), (319, 3, .getfield 164, 49, 1, .inl .null), (322, 2, .bipush 6, 0, 0, .inl (.int 6)), (324, 1, .aload_n 1, 1, 0, .inl .null), (325, 3, .getfield 154, 49, 4, .inl .null), (328, 1, .iadd, 0, 0, .inl .null), (329, 2, .iload 6, 6, 0, .inl .null), (331, 1, .iastore, 0, 0, .inl .null), (332, 1, .aload_n 1, 1, 0, .inl .null), (333, 3, .getfield 164, 49, 1, .inl .null), (336, 2, .bipush 6, 0, 0, .inl (.int 6)), (338, 1, .aload_n 1, 1, 0, .inl .null), (339, 3, .getfield 154, 49, 4, .inl .null), (342, 1, .isub, 0, 0, .inl .null), (343, 2, .iload 7, 7, 0, .inl .null), (345, 1, .iastore, 0, 0, .inl .null), (346, 1, .aload_n 1, 1, 0, .inl .null), (347, 3, .getfield 168, 49, 2, .inl .null), (350, 1, .aload_n 1, 1, 0, .inl .null), (351, 3, .getfield 154, 49, 4, .inl .null), (354, 2, .iload 5, 5, 0, .inl .null), (356, 1, .iastore, 0, 0, .inl .null), (357, 1, .aload_n 1, 1, 0, .inl .null), (358, 3, .getfield 170, 49, 3, .inl .null), (361, 1, .aload_n 1, 1, 0, .inl .null), (362, 3, .getfield 154, 49, 4, .inl .null), (365, 1, .iconst 0, 0, 0, .inl (.int 0)), (366, 1, .iastore, 0, 0, .inl .null), (367, 1, .aload_n 1, 1, 0, .inl .null), (368, 1, .dup, 0, 0, .inl .null), (369, 3, .getfield 154, 49, 4, .inl .null), (372, 1, .iconst 1, 0, 0, .inl (.int 1)), (373, 1, .iadd, 0, 0, .inl .null), (374, 3, .putfield 154, 49, 4, .inl .null), (377, 1, .aload_n 0, 0, 0, .inl .null), (378, 2, .iload 6, 6, 0, .inl .null), (380, 2, .iload 7, 7, 0, .inl .null), (382, 2, .iload 5, 5, 0, .inl .null), (384, 3, .invokevirtual 115, 102, 52, .inr (1, 12, 172)), (387, 1, .aload_n 1, 1, 0, .inl .null), (388, 3, .getfield 154, 49, 4, .inl .null), (391, 3, .if_icmp .ne 7, 398, 0, .inl .null), (394, 1, .iconst 1, 0, 0, .inl (.int 1)), (395, 3, .goto 4, 399, 0, .inl .null), (398, 1, .iconst 0, 0, 0, .inl (.int 0)), (399, 1, .ireturn, 0, 0, .inl .null), (400, 1, .aload_n 1, 1, 0, .inl .null), (401, 3, .getfield 154, 49, 4, .inl .null), (404, 1, .iconst 1, 0, 0, .inl (.int 1)), (405, 3, .if_icmp .ne 22, 427, 0, .inl .null), (408, 1, .aload_n 0, 0, 0, .inl .null), (409, 2, .bipush 27, 0, 0, .inl (.int 27)), (411, 1, .iconst 0, 0, 0, .inl (.int 0)), (412, 1, .iconst 0, 0, 0, .inl (.int 0)), (413, 1, .iconst 0, 0, 0, .inl (.int 0)), (414, 3, .invokestatic 190, 151, 5, .inr (1, 154, 1824)), (417, 1, .iconst 3, 0, 0, .inl (.int 3)), (418, 3, .if_icmp .ne 7, 425, 0, .inl .null), (421, 1, .iconst 1, 0, 0, .inl (.int 1)), (422, 3, .goto 4, 426, 0, .inl .null), (425, 1, .iconst 0, 0, 0, .inl (.int 0)), (426, 1, .ireturn, 0, 0, .inl .null), (427, 1, .aload_n 1, 1, 0, .inl .null), (428, 1, .dup, 0, 0, .inl .null), (429, 3, .getfield 154, 49, 4, .inl .null), (432, 1, .iconst 1, 0, 0, .inl (.int 1)), (433, 1, .isub, 0, 0, .inl .null), (434, 3, .putfield 154, 49, 4, .inl .null), (437, 1, .aload_n 0, 0, 0, .inl .null), (438, 3, .invokevirtual 118, 103, 49, .inr (1, 9, 154)), (441, 1, .aload_n 1, 1, 0, .inl .null), (442, 3, .getfield 154, 49, 4, .inl .null), (445, 3, .if_icmp .ne 7, 452, 0, .inl .null), (448, 1, .iconst 1, 0, 0, .inl (.int 1)), (449, 3, .goto 4, 453, 0, .inl .null), (452, 1, .iconst 0, 0, 0, .inl (.int 0)), (453, 1, .ireturn, 0, 0, .inl .null)]
def cd_L_minors : List gE := [(0, 1, .iconst 0, 0, 0, .inl (.int 0)), (1, 1, .istore_n 3, 3, 0, .inl .null), (2, 1, .iconst 0, 0, 0, .inl (.int 0)), (3, 2, .istore 4, 4, 0, .inl .null), (5, 1, .iconst 0, 0, 0, .inl (.int 0)), (6, 2, .istore 5, 5, 0, .inl .null), (8, 1, .iconst 0, 0, 0, .inl (.int 0)), (9, 2, .istore 6, 6, 0, .inl .null), (11, 1, .iconst 0, 0, 0, .inl (.int 0)), (12, 2, .istore 7, 7, 0, .inl .null), (14, 2, .iload 7, 7, 0, .inl .null), (16, 1, .aload_n 1, 1, 0, .inl .null), (17, 3, .getfield 154, 49, 4, .inl .null), (20, 3, .if_icmp .gt 80, 100, 0, .inl .null), (23, 1, .aload_n 1, 1, 0, .inl .null), (24, 2, .iload 7, 7, 0, .inl .null), (26, 3, .invokevirtual 194, 143, 786, .inr (1, 0, 0)), (29, 2, .istore 8, 8, 0, .inl .null), (31, 1, .aload_n 0, 0, 0, .inl .null), (32, 2, .iload 7, 7, 0, .inl .null), (34, 3, .invokevirtual 46, 63, 50, .inr (1, 2, 12)), (37, 2, .iload 8, 8, 0, .inl .null), (39, 3, .if_icmp .eq 5, 44, 0, .inl .null), (42, 1, .iconst 0, 0, 0, .inl (.int 0)), (43, 1, .ireturn, 0, 0, .inl .null), (44, 2, .iload 8, 8, 0, .inl .null), (46, 3, .ifCond .ne 6, 52, 0, .inl .null), (49, 3, .goto 45, 94, 0, .inl .null), (52, 2, .iload 4, 4, 0, .inl .null), (54, 2, .iload 7, 7, 0, .inl .null), (56, 3, .ifCond .le 7, 63, 0, .inl .null), (59, 1, .iconst 1, 0, 0, .inl (.int 1)), (60, 3, .goto 4, 64, 0, .inl .null), (63, 1, .iconst 0, 0, 0, .inl (.int 0)), (64, 1, .iadd, 0, 0, .inl .null), (65, 2, .istore 4, 4, 0, .inl .null), (67, 2, .iload 5, 5, 0, .inl .null), (69, 2, .iload 7, 7, 0, .inl .null), (71, 1, .iload_n 3, 3, 0, .inl .null), (72, 1, .isub, 0, 0, .inl .null), (73, 3, .invokestatic 195, 307, 2, .inr (1, 0, 0)), (76, 2, .istore 5, 5, 0, .inl .null), (78, 2, .iload 7, 7, 0, .inl .null), (80, 1, .istore_n 3, 3, 0, .inl .null), (81, 1, .aload_n 0, 0, 0, .inl .null), (82, 2, .iload 4, 4, 0, .inl .null), (84, 3, .invokevirtual 49, 67, 50, .inr (1, 2, 12)), (87, 2, .iload 7, 7, 0, .inl .null), (89, 3, .if_icmp .eq 5, 94, 0, .inl .null), (92, 1, .iconst 0, 0, 0, .inl (.int 0)), (93, 1, .ireturn, 0, 0, .inl .null), (94, 3, .iinc 7 1, 7, 0, .inl (.int 1)), (97, 3, .goto (-83), 14, 0, .inl .null), (100, 1, .aload_n 0, 0, 0, .inl .null), (101, 3, .invokevirtual 200, 66, 49, .inr (1, 1, 6)), (104, 2, .iload 4, 4, 0, .inl .null), (106, 3, .if_icmp .ne 56, 162, 0, .inl .null), (109, 1, .aload_n 0, 0, 0, .inl .null), (110, 3, .invokevirtual 203, 68, 49, .inr (1, 1, 6)), (113, 2, .iload 5, 5, 0, .inl .null), (115, 3, .if_icmp .ne 47, 162, 0, .inl .null), (118, 1, .aload_n 0, 0, 0, .inl .null), (119, 3, .invokevirtual 206, 69, 49, .inr (1, 1, 6)), (122, 1, .aload_n 1, 1, 0, .inl .null), (123, 3, .getfield 154, 49, 4, .inl .null), (126, 1, .iload_n 3, 3, 0, .inl .null), (127, 1, .isub, 0, 0, .inl .null), (128, 3, .if_icmp .ne 34, 162, 0, .inl .null), (131, 1, .aload_n 0, 0, 0, .inl .null), (132, 3, .invokevirtual 209, 65, 49, .inr (1, 1, 6)), (135, 1, .iload_n 3, 3, 0, .inl .null), (136, 1, .aload_n 1, 1, 0, .inl .null), (137, 3, .getfield 154, 49, 4, .inl .null), (140, 3, .if_icmp .ne 7, 147, 0, .inl .null), (143, 1, .iconst 1, 0, 0, .inl (.int 1)), (144, 3, .goto 4, 148, 0, .inl .null), (147, 1, .iconst 0, 0, 0, .inl (.int 0)), (148, 3, .if_icmp .ne 14, 162, 0, .inl .null), (151, 1, .aload_n 0, 0, 0, .inl .null), (152, 3, .invokevirtual 136, 64, 49, .inr (1, 1, 6)), (155, 1, .aload_n 1, 1, 0, .inl .null), (156, 3, .invokevirtual 212, 146, 785, .inr (1, 0, 0)), (159, 3, .if_icmp .eq 5, 164, 0, .inl .null), (162, 1, .iconst 0, 0, 0, .inl (.int 0)), (163, 1, .ireturn, 0, 0, .inl .null), (164, 1, .aload_n 1, 1, 0, .inl .null), (165, 1, .aload_n 1, 1, 0, .inl .null), (166, 1, .aload_n 1, 1, 0, .inl .null), (167, 3, .getfield 154, 49, 4, .inl .null), (170, 3, .invokevirtual 213, 142, 786, .inr (1, 0, 0)), (173, 1, .aload_n 1, 1, 0, .inl .null), (174, 1, .aload_n 1, 1, 0, .inl .null), (175, 3, .getfield 154, 49, 4, .inl .null), (178, 3, .invokevirtual 213, 142, 786, .inr (1, 0, 0)), (181, 3, .invokevirtual 216, 141, 787, .inr (2, 0, 0)), (184, 2, .lstore 7, 7, 0, .inl .null), (186, 1, .iconst 0, 0, 0, .inl (.int 0)), (187, 2, .istore 9, 9, 0, .inl .null), (189, 2, .iload 9, 9, 0, .inl .null), (191, 2, .bipush 11, 0, 0, .inl (.int 11)), (193, 3, .if_icmp .ge 37, 230, 0, .inl .null), (196, 2, .iload 6, 6, 0, .inl .null), (198, 2, .lload 7, 7, 0, .inl .null), (200, 3, .getstatic 187, 1, 0, .inr (1, 1, 0)), (203, 2, .iload 9, 9, 0, .inl .null), (205, 1, .iaload, 0, 0, .inl .null), (206, 1, .i2l, 0, 0, .inl .null), (207, 1, .lrem, 0, 0, .inl .null), (208, 1, .lconst 0, 0, 0, .inl (.long 0)), (209, 1, .lcmp, 0, 0, .inl .null), (210, 3, .ifCond .eq 10, 220, 0, .inl .null), (213, 1, .iconst 1, 0, 0, .inl (.int 1)), (214, 2, .iload 9, 9, 0, .inl .null), (216, 1, .ishl, 0, 0, .inl .null), (217, 3, .goto 4, 221, 0, .inl .null), (220, 1, .iconst 0, 0, 0, .inl (.int 0)), (221, 1, .ior, 0, 0, .inl .null), (222, 2, .istore 6, 6, 0, .inl .null), (224, 3, .iinc 9 1, 9, 0, .inl (.int 1)), (227, 3, .goto (-38), 189, 0, .inl .null), (230, 1, .aload_n 0, 0, 0, .inl .null), (231, 3, .invokevirtual 220, 70, 49, .inr (1, 1, 6)), (234, 2, .iload 6, 6, 0, .inl .null), (236, 3, .if_icmp .ne 35, 271, 0, .inl .null), (239, 1, .aload_n 0, 0, 0, .inl .null), (240, 1, .iconst 5, 0, 0, .inl (.int 5)), (241, 2, .iload 4, 4, 0, .inl .null), (243, 1, .iconst 1, 0, 0, .inl (.int 1)), (244, 1, .iadd, 0, 0, .inl .null), (245, 1, .iconst 0, 0, 0, .inl (.int 0)), (246, 1, .iconst 0, 0, 0, .inl (.int 0)), (247, 3, .invokestatic 190, 151, 5, .inr (1, 154, 1824)), (250, 1, .iconst 2, 0, 0, .inl (.int 2)), (251, 3, .if_icmp .ne 20, 271, 0, .inl .null), (254, 1, .aload_n 0, 0, 0, .inl .null), (255, 1, .iconst 4, 0, 0, .inl (.int 4)), (256, 1, .aload_n 1, 1, 0, .inl .null), (257, 3, .getfield 154, 49, 4, .inl .null), (260, 1, .iconst 1, 0, 0, .inl (.int 1)), (261, 1, .iadd, 0, 0, .inl .null), (262, 1, .iconst 0, 0, 0, .inl (.int 0)), (263, 1, .iconst 0, 0, 0, .inl (.int 0)), (264, 3, .invokestatic 190, 151, 5, .inr (1, 154, 1824)), (267, 1, .iconst 2, 0, 0, .inl (.int 2)), (268, 3, .if_icmp .eq 5, 273, 0, .inl .null), (271, 1, .iconst 0, 0, 0, .inl (.int 0)), (272, 1, .ireturn, 0, 0, .inl .null), (273, 1, .aload_n 2, 2, 0, .inl .null), (274, 1, .iconst 1, 0, 0, .inl (.int 1)), (275, 1, .aload_n 1, 1, 0, .inl .null), (276, 3, .getfield 154, 49, 4, .inl .null), (279, 1, .isub, 0, 0, .inl .null), (280, 1, .aload_n 1, 1, 0, .inl .null), (281, 3, .getfield 154, 49, 4, .inl .null), (284, 1, .iconst 1, 0, 0, .inl (.int 1)), (285, 1, .isub, 0, 0, .inl .null), (286, 3, .invokevirtual 179, 131, 771, .inr (1, 0, 0)), (289, 2, .istore 9, 9, 0, .inl .null), (291, 1, .aload_n 2, 2, 0, .inl .null), (292, 2, .bipush (-50), 0, 0, .inl (.int (-50))), (294, 2, .bipush 50, 0, 0, .inl (.int 50)), (296, 3, .invokevirtual 179, 131, 771, .inr (1, 0, 0)), (299, 2, .istore 10, 10, 0, .inl .null), (301, 1, .aload_n 2, 2, 0, .inl .null), (302, 1, .iconst 0, 0, 0, .inl (.int 0)), (303, 1, .aload_n 1, 1, 0, .inl .null), (304, 3, .getfield 154, 49, 4, .inl .null), (307, 3, .invokevirtual 179, 131, 771, .inr (1, 0, 0)), (310, 2, .istore 11, 11, 0, .inl .null), (312, 1, .aload_n 1, 1, 0, .inl .null), (313, 3, .getfield 164, 49, 1, .inl .null), (316, 2, .iload 9, 9, 0, .inl .null), (318, 2, .bipush 6, 0, 0, .inl (.int 6)), (320, 1, .iadd, 0, 0, .inl .null), (321, 1, .iaload, 0, 0, .inl .null), (322, 2, .istore 12, 12, 0, .inl .null), (324, 1, .aload_n 1, 1, 0, .inl .null), (325, 3, .getfield 164, 49, 1, .inl .null), (328, 2, .iload 9, 9, 0, .inl .null), (330, 2, .bipush 6, 0, 0, .inl (.int 6)), (332, 1, .iadd, 0, 0, .inl .null), (333, 2, .iload 10, 10, 0, .inl .null), (335, 1, .iastore, 0, 0, .inl .null), (336, 1, .aload_n 1, 1, 0, .inl .null), (337, 2, .iload 11, 11, 0, .inl .null), (339, 3, .invokevirtual 194, 143, 786, .inr (1, 0, 0)), (342, 2, .istore 13, 13, 0, .inl .null), (344, 1, .aload_n 1, 1, 0, .inl .null), (345, 3, .getfield 164, 49, 1, .inl .null), (348, 2, .iload 9, 9, 0, .inl .null), (350, 2, .bipush 6, 0, 0, .inl (.int 6)), (352, 1, .iadd, 0, 0, .inl .null), (353, 2, .iload 12, 12, 0, .inl .null), (355, 1, .iastore, 0, 0, .inl .null), (356, 1, .aload_n 0, 0, 0, .inl .null), (357, 2, .iload 9, 9, 0, .inl .null), (359, 2, .iload 10, 10, 0, .inl .null), (361, 2, .iload 11, 11, 0, .inl .null), (363, 3, .invokevirtual 52, 71, 52, .inr (1, 4, 24)), (366, 2, .iload 13, 13, 0, .inl .null), (368, 3, .if_icmp .ne 41, 409, 0, .inl .null), (371, 1, .aload_n 0, 0, 0, .inl .null), (372, 2, .bipush 6, 0, 0, .inl (.int 6)), (374, 2, .iload 9, 9, 0, .inl .null), (376, 2, .bipush 51, 0, 0, .inl (.int 51)), (378, 2, .iload 11, 11, 0, .inl .null), (380, 3, .invokestatic 190, 151, 5, .inr (1, 154, 1824)), (383, 1, .iconst 3, 0, 0, .inl (.int 3)), (384, 3, .if_icmp .ne 25, 409, 0, .inl .null), (387, 1, .aload_n 0, 0, 0, .inl .null), (388, 2, .bipush 6, 0, 0, .inl (.int 6)), (390, 1, .aload_n 1, 1, 0, .inl .null), (391, 3, .getfield 154, 49, 4, .inl .null), (394, 2, .iload 10, 10, 0, .inl .null), (396, 2, .iload 11, 11, 0, .inl .null), (398, 3, .invokestatic 190, 151, 5, .inr (1, 154, 1824)), (401, 1, .iconst 2, 0, 0, .inl (.int 2)), (402, 3, .if_icmp .ne 7, 409, 0, .inl .null), (405, 1, .iconst 1, 0, 0, .inl (.int 1)), (406, 3, .goto 4, 410, 0, .inl .null), (409, 1, .iconst 0, 0, 0, .inl (.int 0)), (410, 1, .ireturn, 0, 0, .inl .null)]
def cd_L_with : List gE := [(0, 1, .lconst 0, 0, 0, .inl (.long 0)), (1, 1, .lstore_n 3, 3, 0, .inl .null), (2, 1, .iconst 0, 0, 0, .inl (.int 0)), (3, 2, .istore 5, 5, 0, .inl .null), (5, 2, .iload 5, 5, 0, .inl .null), (7, 1, .aload_n 0, 0, 0, .inl .null), (8, 3, .getfield 154, 49, 4, .inl .null), (11, 3, .if_icmp .ge 68, 79, 0, .inl .null), (14, 1, .lload_n 3, 3, 0, .inl .null), (15, 2, .iload 5, 5, 0, .inl .null), (17, 1, .iload_n 1, 1, 0, .inl .null), (18, 1, .iadd, 0, 0, .inl .null), (19, 1, .iconst 2, 0, 0, .inl (.int 2)), (20, 1, .irem, 0, 0, .inl .null), (21, 3, .ifCond .ne 7, 28, 0, .inl .null), (24, 1, .lconst 1, 0, 0, .inl (.long 1)), (25, 3, .goto 6, 31, 0, .inl .null), (28, 3, .ldc2_w 223, 0, 0, .inl (.long (-1))), (31, 1, .aload_n 2, 2, 0, .inl .null), (32, 2, .iload 5, 5, 0, .inl .null), (34, 1, .iaload, 0, 0, .inl .null), (35, 1, .i2l, 0, 0, .inl .null), (36, 1, .lmul, 0, 0, .inl .null), (37, 1, .aload_n 0, 0, 0, .inl .null), (38, 1, .aload_n 0, 0, 0, .inl .null), (39, 1, .aload_n 0, 0, 0, .inl .null), (40, 3, .getfield 154, 49, 4, .inl .null), (43, 3, .invokevirtual 213, 142, 786, .inr (1, 0, 0)), (46, 1, .iconst 1, 0, 0, .inl (.int 1)), (47, 2, .iload 5, 5, 0, .inl .null), (49, 1, .ishl, 0, 0, .inl .null), (50, 1, .iconst (-1), 0, 0, .inl (.int (-1))), (51, 1, .ixor, 0, 0, .inl .null), (52, 1, .iand, 0, 0, .inl .null), (53, 1, .aload_n 0, 0, 0, .inl .null), (54, 1, .aload_n 0, 0, 0, .inl .null), (55, 3, .getfield 154, 49, 4, .inl .null), (58, 3, .invokevirtual 213, 142, 786, .inr (1, 0, 0)), (61, 1, .iconst 1, 0, 0, .inl (.int 1)), (62, 1, .iload_n 1, 1, 0, .inl .null), (63, 1, .ishl, 0, 0, .inl .null), (64, 1, .iconst (-1), 0, 0, .inl (.int (-1))), (65, 1, .ixor, 0, 0, .inl .null), (66, 1, .iand, 0, 0, .inl .null), (67, 3, .invokevirtual 216, 141, 787, .inr (2, 0, 0)), (70, 1, .lmul, 0, 0, .inl .null), (71, 1, .ladd, 0, 0, .inl .null), (72, 1, .lstore_n 3, 3, 0, .inl .null), (73, 3, .iinc 5 1, 5, 0, .inl (.int 1)), (76, 3, .goto (-71), 5, 0, .inl .null), (79, 1, .lload_n 3, 3, 0, .inl .null), (80, 1, .lreturn, 0, 0, .inl .null)]
def cd_L_solutions : List gE := [(0, 1, .aload_n 1, 1, 0, .inl .null), (1, 3, .invokevirtual 225, 144, 785, .inr (1, 0, 0)), (4, 3, .ifCond .ne 69, 73, 0, .inl .null), (7, 1, .aload_n 0, 0, 0, .inl .null), (8, 2, .bipush 11, 0, 0, .inl (.int 11)), (10, 1, .iconst 0, 0, 0, .inl (.int 0)), (11, 1, .iconst 0, 0, 0, .inl (.int 0)), (12, 1, .iconst 0, 0, 0, .inl (.int 0)), (13, 3, .invokestatic 190, 151, 5, .inr (1, 154, 1824)), (16, 1, .iconst 3, 0, 0, .inl (.int 3)), (17, 3, .if_icmp .ne 54, 71, 0, .inl .null), (20, 1, .aload_n 0, 0, 0, .inl .null), (21, 2, .bipush 12, 0, 0, .inl (.int 12)), (23, 1, .iconst 0, 0, 0, .inl (.int 0)), (24, 1, .iconst 0, 0, 0, .inl (.int 0)), (25, 1, .iconst 0, 0, 0, .inl (.int 0)), (26, 3, .invokestatic 190, 151, 5, .inr (1, 154, 1824)), (29, 1, .iconst 3, 0, 0, .inl (.int 3)), (30, 3, .if_icmp .ne 41, 71, 0, .inl .null), (33, 1, .aload_n 0, 0, 0, .inl .null), (34, 2, .bipush 28, 0, 0, .inl (.int 28)), (36, 1, .iconst 0, 0, 0, .inl (.int 0)), (37, 1, .iconst 0, 0, 0, .inl (.int 0)), (38, 1, .iconst 0, 0, 0, .inl (.int 0)), (39, 3, .invokestatic 190, 151, 5, .inr (1, 154, 1824)), (42, 1, .iconst 3, 0, 0, .inl (.int 3)), (43, 3, .if_icmp .ne 28, 71, 0, .inl .null), (46, 1, .aload_n 0, 0, 0, .inl .null), (47, 2, .bipush 29, 0, 0, .inl (.int 29)), (49, 1, .iconst 1, 0, 0, .inl (.int 1)), (50, 1, .iconst 0, 0, 0, .inl (.int 0)), (51, 1, .iconst 0, 0, 0, .inl (.int 0)), (52, 3, .invokestatic 190, 151, 5, .inr (1, 154, 1824)), (55, 1, .iconst 3, 0, 0, .inl (.int 3)), (56, 3, .if_icmp .ne 15, 71, 0, .inl .null), (59, 1, .aload_n 0, 0, 0, .inl .null), (60, 1, .aload_n 1, 1, 0, .inl .null), (61, 3, .invokestatic 226, 157, 2, .inr (1, 7, 42)), (64, 3, .ifCond .eq 7, 71, 0, .inl .null), (67, 1, .iconst 1, 0, 0, .inl (.int 1)), (68, 3, .goto 4, 72, 0, .inl .null), (71, 1, .iconst 0, 0, 0, .inl (.int 0)), (72, 1, .ireturn, 0, 0, .inl .null), (73, 1, .aload_n 1, 1, 0, .inl .null), (74, 1, .aload_n 1, 1, 0, .inl .null), (75, 1, .aload_n 1, 1, 0, .inl .null), (76, 3, .getfield 154, 49, 4, .inl .null), (79, 3, .invokevirtual 194, 143, 786, .inr (1, 0, 0)), (82, 3, .invokevirtual 229, 135, 786, .inr (1, 0, 0)), (85, 1, .istore_n 2, 2, 0, .inl .null), (86, 1, .iconst 0, 0, 0, .inl (.int 0)), (87, 1, .istore_n 3, 3, 0, .inl .null), (88, 1, .iload_n 3, 3, 0, .inl .null), (89, 1, .aload_n 1, 1, 0, .inl .null), (90, 3, .getfield 154, 49, 4, .inl .null), (93, 3, .if_icmp .ge 99, 192, 0, .inl .null), (96, 1, .aload_n 0, 0, 0, .inl .null), (97, 1, .iload_n 3, 3, 0, .inl .null), (98, 3, .invokevirtual 69, 77, 50, .inr (1, 3, 18)), (101, 1, .aload_n 1, 1, 0, .inl .null), (102, 1, .aload_n 1, 1, 0, .inl .null), (103, 1, .aload_n 1, 1, 0, .inl .null), (104, 1, .iload_n 3, 3, 0, .inl .null), (105, 1, .aload_n 1, 1, 0, .inl .null), (106, 3, .getfield 168, 49, 2, .inl .null), (109, 3, .invokestatic 232, 155, 3, .inr (2, 0, 0)), (112, 3, .invokevirtual 236, 134, 786, .inr (1, 0, 0)), (115, 1, .iload_n 2, 2, 0, .inl .null), (116, 1, .imul, 0, 0, .inl .null), (117, 1, .i2l, 0, 0, .inl .null), (118, 3, .invokevirtual 236, 134, 786, .inr (1, 0, 0)), (121, 3, .if_icmp .eq 5, 126, 0, .inl .null), (124, 1, .iconst 0, 0, 0, .inl (.int 0)), (125, 1, .ireturn, 0, 0, .inl .null), (126, 1, .iconst 0, 0, 0, .inl (.int 0)), (127, 2, .istore 4, 4, 0, .inl .null), (129, 2, .iload 4, 4, 0, .inl .null), (131, 1, .aload_n 1, 1, 0, .inl .null), (132, 3, .getfield 154, 49, 4, .inl .null), (135, 3, .if_icmp .ge 51, 186, 0, .inl .null), (138, 2, .bipush 7, 0, 0, .inl (.int 7)), (140, 2, .newarray .int, 53, 7, .inl .null), (142, 2, .astore 5, 5, 0, .inl .null), (144, 2, .aload 5, 5, 0, .inl .null), (146, 2, .iload 4, 4, 0, .inl .null), (148, 1, .iconst 1, 0, 0, .inl (.int 1)), (149, 1, .iastore, 0, 0, .inl .null), (150, 1, .aload_n 0, 0, 0, .inl .null), (151, 1, .iload_n 3, 3, 0, .inl .null), (152, 2, .iload 4, 4, 0, .inl .null), (154, 3, .invokevirtual 72, 78, 51, .inr (1, 4, 24)), (157, 1, .aload_n 1, 1, 0, .inl .null), (158, 1, .aload_n 1, 1, 0, .inl .null), (159, 1, .aload_n 1, 1, 0, .inl .null), (160, 1, .iload_n 3, 3, 0, .inl .null), (161, 2, .aload 5, 5, 0, .inl .null), (163, 3, .invokestatic 232, 155, 3, .inr (2, 0, 0)), (166, 3, .invokevirtual 236, 134, 786, .inr (1, 0, 0)), (169, 1, .iload_n 2, 2, 0, .inl .null), (170, 1, .imul, 0, 0, .inl .null), (171, 1, .i2l, 0, 0, .inl .null), (172, 3, .invokevirtual 236, 134, 786, .inr (1, 0, 0)), (175, 3, .if_icmp .eq 5, 180, 0, .inl .null), (178, 1, .iconst 0, 0, 0, .inl (.int 0)), (179, 1, .ireturn, 0, 0, .inl .null), (180, 3, .iinc 4 1, 4, 0, .inl (.int 1)), (183, 3, .goto (-54), 129, 0, .inl .null), (186, 3, .iinc 3 1, 3, 0, .inl (.int 1)), (189, 3, .goto (-101), 88, 0, .inl .null), (192, 1, .aload_n 0, 0, 0, .inl .null), (193, 3, .invokevirtual 240, 80, 49, .inr (1, 1, 6)), (196, 3, .ifCond .eq 20, 216, 0, .inl .null), (199, 1, .aload_n 0, 0, 0, .inl .null), (200, 2, .bipush 13, 0, 0, .inl (.int 13)), (202, 1, .iconst 0, 0, 0, .inl (.int 0)), (203, 1, .iconst 0, 0, 0, .inl (.int 0)), (204, 1, .iconst 0, 0, 0, .inl (.int 0)), (205, 3, .invokestatic 190, 151, 5, .inr (1, 154, 1824)), (208, 1, .iconst 3, 0, 0, .inl (.int 3)), (209, 3, .if_icmp .ne 7, 216, 0, .inl .null), (212, 1, .iconst 1, 0, 0, .inl (.int 1)), (213, 3, .goto 4, 217, 0, .inl .null), (216, 1, .iconst 0, 0, 0, .inl (.int 0)), (217, 1, .ireturn, 0, 0, .inl .null)]
def cd_L_kernel : List gE := [(0, 1, .iconst 0, 0, 0, .inl (.int 0)), (1, 1, .istore_n 2, 2, 0, .inl .null), (2, 1, .aload_n 1, 1, 0, .inl .null), (3, 1, .aload_n 1, 1, 0, .inl .null), (4, 1, .iload_n 2, 2, 0, .inl .null), (5, 1, .iconst 1, 0, 0, .inl (.int 1)), (6, 1, .iadd, 0, 0, .inl .null), (7, 3, .invokevirtual 213, 142, 786, .inr (1, 0, 0)), (10, 3, .invokevirtual 243, 145, 786, .inr (1, 0, 0)), (13, 3, .ifCond .eq 9, 22, 0, .inl .null), (16, 3, .iinc 2 1, 2, 0, .inl (.int 1)), (19, 3, .goto (-17), 2, 0, .inl .null), (22, 1, .iload_n 2, 2, 0, .inl .null), (23, 1, .istore_n 3, 3, 0, .inl .null), (24, 1, .iload_n 3, 3, 0, .inl .null), (25, 1, .aload_n 1, 1, 0, .inl .null), (26, 3, .getfield 154, 49, 4, .inl .null), (29, 3, .if_icmp .ge 29, 58, 0, .inl .null), (32, 1, .aload_n 0, 0, 0, .inl .null), (33, 1, .iload_n 3, 3, 0, .inl .null), (34, 3, .invokevirtual 75, 79, 50, .inr (1, 3, 18)), (37, 1, .iload_n 3, 3, 0, .inl .null), (38, 1, .iload_n 2, 2, 0, .inl .null), (39, 3, .if_icmp .ne 7, 46, 0, .inl .null), (42, 1, .iconst 1, 0, 0, .inl (.int 1)), (43, 3, .goto 4, 47, 0, .inl .null), (46, 1, .iconst 0, 0, 0, .inl (.int 0)), (47, 3, .if_icmp .eq 5, 52, 0, .inl .null), (50, 1, .iconst 0, 0, 0, .inl (.int 0)), (51, 1, .ireturn, 0, 0, .inl .null), (52, 3, .iinc 3 1, 3, 0, .inl (.int 1)), (55, 3, .goto (-31), 24, 0, .inl .null), (58, 1, .iconst 0, 0, 0, .inl (.int 0)), (59, 1, .istore_n 3, 3, 0, .inl .null), (60, 1, .iload_n 3, 3, 0, .inl .null), (61, 1, .aload_n 1, 1, 0, .inl .null), (62, 3, .getfield 154, 49, 4, .inl .null), (65, 3, .if_icmp .ge 62, 127, 0, .inl .null), (68, 1, .lconst 0, 0, 0, .inl (.long 0)), (69, 2, .lstore 4, 4, 0, .inl .null), (71, 1, .iconst 0, 0, 0, .inl (.int 0)), (72, 2, .istore 6, 6, 0, .inl .null), (74, 2, .iload 6, 6, 0, .inl .null), (76, 1, .aload_n 1, 1, 0, .inl .null), (77, 3, .getfield 154, 49, 4, .inl .null), (80, 3, .if_icmp .ge 30, 110, 0, .inl .null), (83, 2, .lload 4, 4, 0, .inl .null), (85, 1, .aload_n 1, 1, 0, .inl .null), (86, 1, .iload_n 3, 3, 0, .inl .null), (87, 2, .iload 6, 6, 0, .inl .null), (89, 3, .invokevirtual 172, 132, 787, .inr (1, 0, 0)), (92, 1, .i2l, 0, 0, .inl .null), (93, 1, .aload_n 0, 0, 0, .inl .null), (94, 2, .iload 6, 6, 0, .inl .null), (96, 3, .invokevirtual 75, 79, 50, .inr (1, 3, 18)), (99, 1, .i2l, 0, 0, .inl .null), (100, 1, .lmul, 0, 0, .inl .null), (101, 1, .ladd, 0, 0, .inl .null), (102, 2, .lstore 4, 4, 0, .inl .null), (104, 3, .iinc 6 1, 6, 0, .inl (.int 1)), (107, 3, .goto (-33), 74, 0, .inl .null), (110, 1, .aload_n 1, 1, 0, .inl .null), (111, 2, .lload 4, 4, 0, .inl .null), (113, 3, .invokevirtual 236, 134, 786, .inr (1, 0, 0)), (116, 3, .ifCond .eq 5, 121, 0, .inl .null), (119, 1, .iconst 0, 0, 0, .inl (.int 0)), (120, 1, .ireturn, 0, 0, .inl .null), (121, 3, .iinc 3 1, 3, 0, .inl (.int 1)), (124, 3, .goto (-64), 60, 0, .inl .null), (127, 1, .aload_n 1, 1, 0, .inl .null), (128, 3, .invokevirtual 212, 146, 785, .inr (1, 0, 0)), (131, 1, .istore_n 3, 3, 0, .inl .null), (132, 1, .iconst 1, 0, 0, .inl (.int 1)), (133, 2, .istore 4, 4, 0, .inl .null), (135, 1, .iconst 0, 0, 0, .inl (.int 0)), (136, 2, .istore 5, 5, 0, .inl .null), (138, 2, .iload 5, 5, 0, .inl .null), (140, 1, .iconst 1, 0, 0, .inl (.int 1)), (141, 1, .aload_n 1, 1, 0, .inl .null), (142, 3, .getfield 154, 49, 4, .inl .null), (145, 1, .ishl, 0, 0, .inl .null), (146, 3, .if_icmp .ge 164, 310, 0, .inl .null), (149, 2, .iload 4, 4, 0, .inl .null), (151, 3, .ifCond .eq 159, 310, 0, .inl .null), (154, 1, .iconst 0, 0, 0, .inl (.int 0)), (155, 2, .istore 6, 6, 0, .inl .null), (157, 2, .iload 6, 6, 0, .inl .null), (159, 1, .iconst 1, 0, 0, .inl (.int 1)), (160, 1, .aload_n 1, 1, 0, .inl .null), (161, 3, .getfield 154, 49, 4, .inl .null), (164, 1, .ishl, 0, 0, .inl .null), (165, 3, .if_icmp .ge 139, 304, 0, .inl .null), (168, 2, .iload 4, 4, 0, .inl .null), (170, 3, .ifCond .eq 134, 304, 0, .inl .null), (173, 2, .iload 5, 5, 0, .inl .null), (175, 3, .invokestatic 247, 170, 1, .inr (1, 0, 0)), (178, 1, .iload_n 3, 3, 0, .inl .null), (179, 1, .iconst 1, 0, 0, .inl (.int 1)), (180, 1, .iadd, 0, 0, .inl .null), (181, 3, .if_icmp .ne 117, 298, 0, .inl .null), (184, 2, .iload 6, 6, 0, .inl .null), (186, 3, .invokestatic 247, 170, 1, .inr (1, 0, 0)), (189, 1, .iload_n 3, 3, 0, .inl .null), (190, 3, .if_icmp .eq 6, 196, 0, .inl .null), (193, 3, .goto 105, 298, 0, .inl .null), (196, 1, .lconst 0, 0, 0, .inl (.long 0)), (197, 2, .lstore 7, 7, 0, .inl .null), (199, 1, .iload_n 3, 3, 0, .inl .null), (200, 1, .iconst 2, 0, 0, .inl (.int 2)), (201, 1, .irem, 0, 0, .inl .null), (202, 3, .ifCond .ne 7, 209, 0, .inl .null), (205, 1, .lconst 1, 0, 0, .inl (.long 1)), (206, 3, .goto 6, 212, 0, .inl .null), (209, 3, .ldc2_w 223, 0, 0, .inl (.long (-1))), (212, 2, .lstore 9, 9, 0, .inl .null), (214, 1, .iconst 0, 0, 0, .inl (.int 0)), (215, 2, .istore 11, 11, 0, .inl .null), (217, 2, .iload 11, 11, 0, .inl .null), (219, 1, .aload_n 1, 1, 0, .inl .null), (220, 3, .getfield 154, 49, 4, .inl .null), (223, 3, .if_icmp .ge 59, 282, 0, .inl .null), (226, 2, .iload 5, 5, 0, .inl .null), (228, 2, .iload 11, 11, 0, .inl .null), (230, 1, .ishr, 0, 0, .inl .null), (231, 1, .iconst 1, 0, 0, .inl (.int 1)), (232, 1, .iand, 0, 0, .inl .null), (233, 3, .ifCond .ne 6, 239, 0, .inl .null), (236, 3, .goto 40, 276, 0, .inl .null), (239, 2, .lload 7, 7, 0, .inl .null), (241, 2, .lload 9, 9, 0, .inl .null), (243, 1, .aload_n 1, 1, 0, .inl .null), (244, 3, .getfield 168, 49, 2, .inl .null), (247, 2, .iload 11, 11, 0, .inl .null), (249, 1, .iaload, 0, 0, .inl .null), (250, 1, .i2l, 0, 0, .inl .null), (251, 1, .lmul, 0, 0, .inl .null), (252, 1, .aload_n 1, 1, 0, .inl .null), (253, 2, .iload 5, 5, 0, .inl .null), (255, 1, .iconst 1, 0, 0, .inl (.int 1)), (256, 2, .iload 11, 11, 0, .inl .null), (258, 1, .ishl, 0, 0, .inl .null), (259, 1, .iconst (-1), 0, 0, .inl (.int (-1))), (260, 1, .ixor, 0, 0, .inl .null), (261, 1, .iand, 0, 0, .inl .null), (262, 2, .iload 6, 6, 0, .inl .null), (264, 3, .invokevirtual 216, 141, 787, .inr (2, 0, 0)), (267, 1, .lmul, 0, 0, .inl .null), (268, 1, .ladd, 0, 0, .inl .null), (269, 2, .lstore 7, 7, 0, .inl .null), (271, 2, .lload 9, 9, 0, .inl .null), (273, 1, .lneg, 0, 0, .inl .null), (274, 2, .lstore 9, 9, 0, .inl .null), (276, 3, .iinc 11 1, 11, 0, .inl (.int 1)), (279, 3, .goto (-62), 217, 0, .inl .null), (282, 1, .aload_n 1, 1, 0, .inl .null), (283, 2, .lload 7, 7, 0, .inl .null), (285, 3, .invokevirtual 236, 134, 786, .inr (1, 0, 0)), (288, 3, .ifCond .ne 7, 295, 0, .inl .null), (291, 1, .iconst 1, 0, 0, .inl (.int 1)), (292, 3, .goto 4, 296, 0, .inl .null), (295, 1, .iconst 0, 0, 0, .inl (.int 0)), (296, 2, .istore 4, 4, 0, .inl .null), (298, 3, .iinc 6 1, 6, 0, .inl (.int 1)), (301, 3, .goto (-144), 157, 0, .inl .null), (304, 3, .iinc 5 1, 5, 0, .inl (.int 1)), (307, 3, .goto (-169), 138, 0, .inl .null), (310, 1, .aload_n 0, 0, 0, .inl .null), (311, 3, .invokevirtual 240, 80, 49, .inr (1, 1, 6)), (314, 2, .iload 4, 4, 0, .inl .null), (316, 3, .if_icmp .ne 7, 323, 0, .inl .null), (319, 1, .iconst 1, 0, 0, .inl (.int 1)), (320, 3, .goto 4, 324, 0, .inl .null), (323, 1, .iconst 0, 0, 0, .inl (.int 0)), (324, 1, .ireturn, 0, 0, .inl .null)]
def cd_L_products : List gE := [(0, 1, .iconst 2, 0, 0, .inl (.int 2)), (1, 1, .aload_n 1, 1, 0, .inl .null), (2, 3, .getfield 154, 49, 4, .inl .null), (5, 1, .imul, 0, 0, .inl .null), (6, 1, .istore_n 2, 2, 0, .inl .null), (7, 1, .iconst 0, 0, 0, .inl (.int 0)), (8, 1, .istore_n 3, 3, 0, .inl .null), (9, 1, .iload_n 3, 3, 0, .inl .null), (10, 1, .iload_n 2, 2, 0, .inl .null), (11, 3, .if_icmp .ge 170, 181, 0, .inl .null), (14, 1, .iconst 0, 0, 0, .inl (.int 0)), (15, 2, .istore 4, 4, 0, .inl .null), (17, 1, .iconst 0, 0, 0, .inl (.int 0)), (18, 2, .istore 5, 5, 0, .inl .null), (20, 2, .iload 5, 5, 0, .inl .null), (22, 1, .iload_n 2, 2, 0, .inl .null), (23, 3, .if_icmp .ge 122, 145, 0, .inl .null), (26, 1, .iload_n 3, 3, 0, .inl .null), (27, 2, .iload 5, 5, 0, .inl .null), (29, 1, .isub, 0, 0, .inl .null), (30, 2, .istore 6, 6, 0, .inl .null), (32, 2, .iload 6, 6, 0, .inl .null), (34, 1, .aload_n 1, 1, 0, .inl .null), (35, 3, .getfield 154, 49, 4, .inl .null), (38, 3, .if_icmp .le 10, 48, 0, .inl .null), (41, 2, .iload 6, 6, 0, .inl .null), (43, 1, .iload_n 2, 2, 0, .inl .null), (44, 1, .isub, 0, 0, .inl .null), (45, 3, .goto 22, 67, 0, .inl .null), (48, 2, .iload 6, 6, 0, .inl .null), (50, 1, .aload_n 1, 1, 0, .inl .null), (51, 3, .getfield 154, 49, 4, .inl .null), (54, 1, .ineg, 0, 0, .inl .null), (55, 3, .if_icmp .ge 10, 65, 0, .inl .null), (58, 2, .iload 6, 6, 0, .inl .null), (60, 1, .iload_n 2, 2, 0, .inl .null), (61, 1, .iadd, 0, 0, .inl .null), (62, 3, .goto 5, 67, 0, .inl .null), (65, 2, .iload 6, 6, 0, .inl .null), (67, 2, .istore 7, 7, 0, .inl .null), (69, 2, .iload 7, 7, 0, .inl .null), (71, 3, .invokestatic 252, 305, 1, .inr (1, 0, 0)), (74, 1, .aload_n 1, 1, 0, .inl .null), (75, 3, .getfield 154, 49, 4, .inl .null), (78, 3, .if_icmp .ne 7, 85, 0, .inl .null), (81, 1, .iconst 0, 0, 0, .inl (.int 0)), (82, 3, .goto 13, 95, 0, .inl .null), (85, 1, .aload_n 1, 1, 0, .inl .null), (86, 3, .getfield 164, 49, 1, .inl .null), (89, 2, .iload 7, 7, 0, .inl .null), (91, 2, .bipush 6, 0, 0, .inl (.int 6)), (93, 1, .iadd, 0, 0, .inl .null), (94, 1, .iaload, 0, 0, .inl .null), (95, 2, .istore 8, 8, 0, .inl .null), (97, 1, .aload_n 0, 0, 0, .inl .null), (98, 1, .iload_n 3, 3, 0, .inl .null), (99, 2, .iload 5, 5, 0, .inl .null), (101, 3, .invokevirtual 94, 93, 51, .inr (1, 3, 18)), (104, 2, .iload 8, 8, 0, .inl .null), (106, 3, .if_icmp .eq 5, 111, 0, .inl .null), (109, 1, .iconst 0, 0, 0, .inl (.int 0)), (110, 1, .ireturn, 0, 0, .inl .null), (111, 2, .iload 4, 4, 0, .inl .null), (113, 2, .iload 5, 5, 0, .inl .null), (115, 1, .aload_n 1, 1, 0, .inl .null), (116, 3, .getfield 154, 49, 4, .inl .null), (119, 3, .if_icmp .ge 16, 135, 0, .inl .null), (122, 2, .iload 8, 8, 0, .inl .null), (124, 1, .aload_n 1, 1, 0, .inl .null), (125, 3, .getfield 170, 49, 3, .inl .null), (128, 2, .iload 5, 5, 0, .inl .null), (130, 1, .iaload, 0, 0, .inl .null), (131, 1, .imul, 0, 0, .inl .null), (132, 3, .goto 4, 136, 0, .inl .null), (135, 1, .iconst 0, 0, 0, .inl (.int 0)), (136, 1, .iadd, 0, 0, .inl .null), (137, 2, .istore 4, 4, 0, .inl .null), (139, 3, .iinc 5 1, 5, 0, .inl (.int 1)), (142, 3, .goto (-122), 20, 0, .inl .null), (145, 1, .aload_n 0, 0, 0, .inl .null), (146, 1, .iload_n 3, 3, 0, .inl .null), (147, 3, .invokevirtual 97, 94, 50, .inr (1, 2, 12)), (150, 2, .iload 4, 4, 0, .inl .null), (152, 3, .if_icmp .ne 21, 173, 0, .inl .null), (155, 1, .iload_n 3, 3, 0, .inl .null), (156, 1, .aload_n 1, 1, 0, .inl .null), (157, 3, .getfield 154, 49, 4, .inl .null), (160, 3, .if_icmp .ge 15, 175, 0, .inl .null), (163, 1, .aload_n 0, 0, 0, .inl .null), (164, 1, .iload_n 3, 3, 0, .inl .null), (165, 3, .invokevirtual 91, 92, 50, .inr (1, 2, 12)), (168, 2, .iload 4, 4, 0, .inl .null), (170, 3, .if_icmp .eq 5, 175, 0, .inl .null), (173, 1, .iconst 0, 0, 0, .inl (.int 0)), (174, 1, .ireturn, 0, 0, .inl .null), (175, 3, .iinc 3 1, 3, 0, .inl (.int 1)), (178, 3, .goto (-169), 9, 0, .inl .null), (181, 1, .aload_n 0, 0, 0, .inl .null), (182, 2, .bipush 19, 0, 0, .inl (.int 19)), (184, 1, .iload_n 2, 2, 0, .inl .null), (185, 1, .iconst 0, 0, 0, .inl (.int 0)), (186, 1, .iconst 0, 0, 0, .inl (.int 0)), (187, 3, .invokestatic 190, 151, 5, .inr (1, 154, 1824)), (190, 1, .iconst 2, 0, 0, .inl (.int 2)), (191, 3, .if_icmp .ne 20, 211, 0, .inl .null), (194, 1, .aload_n 0, 0, 0, .inl .null), (195, 2, .bipush 20, 0, 0, .inl (.int 20)), (197, 1, .iconst (-1), 0, 0, .inl (.int (-1))), (198, 1, .iconst 0, 0, 0, .inl (.int 0)), (199, 1, .iconst 0, 0, 0, .inl (.int 0)), (200, 3, .invokestatic 190, 151, 5, .inr (1, 154, 1824)), (203, 1, .iconst 2, 0, 0, .inl (.int 2)), (204, 3, .if_icmp .ne 7, 211, 0, .inl .null), (207, 1, .iconst 1, 0, 0, .inl (.int 1)), (208, 3, .goto 4, 212, 0, .inl .null), (211, 1, .iconst 0, 0, 0, .inl (.int 0)), (212, 1, .ireturn, 0, 0, .inl .null)]
def cd_J6_bitCount_0f7a4 : List gE := [(0, 1, .iload_n 0, 0, 0, .inl .null), (1, 1, .iload_n 0, 0, 0, .inl .null), (2, 1, .iconst 1, 0, 0, .inl (.int 1)), (3, 1, .iushr, 0, 0, .inl .null), (4, 3, .ldc_w 265, 0, 0, .inl (.int 1431655765)), (7, 1, .iand, 0, 0, .inl .null), (8, 1, .isub, 0, 0, .inl .null), (9, 1, .istore_n 0, 0, 0, .inl .null), (10, 1, .iload_n 0, 0, 0, .inl .null), (11, 3, .ldc_w 266, 0, 0, .inl (.int 858993459)), (14, 1, .iand, 0, 0, .inl .null), (15, 1, .iload_n 0, 0, 0, .inl .null), (16, 1, .iconst 2, 0, 0, .inl (.int 2)), (17, 1, .iushr, 0, 0, .inl .null), (18, 3, .ldc_w 266, 0, 0, .inl (.int 858993459)), (21, 1, .iand, 0, 0, .inl .null), (22, 1, .iadd, 0, 0, .inl .null), (23, 1, .istore_n 0, 0, 0, .inl .null), (24, 1, .iload_n 0, 0, 0, .inl .null), (25, 1, .iload_n 0, 0, 0, .inl .null), (26, 1, .iconst 4, 0, 0, .inl (.int 4)), (27, 1, .iushr, 0, 0, .inl .null), (28, 1, .iadd, 0, 0, .inl .null), (29, 3, .ldc_w 267, 0, 0, .inl (.int 252645135)), (32, 1, .iand, 0, 0, .inl .null), (33, 1, .istore_n 0, 0, 0, .inl .null), (34, 1, .iload_n 0, 0, 0, .inl .null), (35, 1, .iload_n 0, 0, 0, .inl .null), (36, 2, .bipush 8, 0, 0, .inl (.int 8)), (38, 1, .iushr, 0, 0, .inl .null), (39, 1, .iadd, 0, 0, .inl .null), (40, 1, .istore_n 0, 0, 0, .inl .null), (41, 1, .iload_n 0, 0, 0, .inl .null), (42, 1, .iload_n 0, 0, 0, .inl .null), (43, 2, .bipush 16, 0, 0, .inl (.int 16)), (45, 1, .iushr, 0, 0, .inl .null), (46, 1, .iadd, 0, 0, .inl .null), (47, 1, .istore_n 0, 0, 0, .inl .null), (48, 1, .iload_n 0, 0, 0, .inl .null), (49, 2, .bipush 63, 0, 0, .inl (.int 63)), (51, 1, .iand, 0, 0, .inl .null), (52, 1, .ireturn, 0, 0, .inl .null)]
def cd_J6_numberOfTrailingZeros_0f7a4 : List gE := [(0, 1, .iload_n 0, 0, 0, .inl .null), (1, 1, .iconst (-1), 0, 0, .inl (.int (-1))), (2, 1, .ixor, 0, 0, .inl .null), (3, 1, .iload_n 0, 0, 0, .inl .null), (4, 1, .iconst 1, 0, 0, .inl (.int 1)), (5, 1, .isub, 0, 0, .inl .null), (6, 1, .iand, 0, 0, .inl .null), (7, 1, .istore_n 0, 0, 0, .inl .null), (8, 1, .iload_n 0, 0, 0, .inl .null), (9, 3, .ifCond .gt 8, 17, 0, .inl .null), (12, 1, .iload_n 0, 0, 0, .inl .null), (13, 2, .bipush 32, 0, 0, .inl (.int 32)), (15, 1, .iand, 0, 0, .inl .null), (16, 1, .ireturn, 0, 0, .inl .null), (17, 1, .iconst 1, 0, 0, .inl (.int 1)), (18, 1, .istore_n 1, 1, 0, .inl .null), (19, 1, .iload_n 0, 0, 0, .inl .null), (20, 3, .ldc_w 264, 0, 0, .inl (.int 65536)), (23, 3, .if_icmp .le 11, 34, 0, .inl .null), (26, 3, .iinc 1 16, 1, 0, .inl (.int 16)), (29, 1, .iload_n 0, 0, 0, .inl .null), (30, 2, .bipush 16, 0, 0, .inl (.int 16)), (32, 1, .iushr, 0, 0, .inl .null), (33, 1, .istore_n 0, 0, 0, .inl .null), (34, 1, .iload_n 0, 0, 0, .inl .null), (35, 3, .sipush 256, 0, 0, .inl (.int 256)), (38, 3, .if_icmp .le 11, 49, 0, .inl .null), (41, 3, .iinc 1 8, 1, 0, .inl (.int 8)), (44, 1, .iload_n 0, 0, 0, .inl .null), (45, 2, .bipush 8, 0, 0, .inl (.int 8)), (47, 1, .iushr, 0, 0, .inl .null), (48, 1, .istore_n 0, 0, 0, .inl .null), (49, 1, .iload_n 0, 0, 0, .inl .null), (50, 2, .bipush 16, 0, 0, .inl (.int 16)), (52, 3, .if_icmp .le 10, 62, 0, .inl .null), (55, 3, .iinc 1 4, 1, 0, .inl (.int 4)), (58, 1, .iload_n 0, 0, 0, .inl .null), (59, 1, .iconst 4, 0, 0, .inl (.int 4)), (60, 1, .iushr, 0, 0, .inl .null), (61, 1, .istore_n 0, 0, 0, .inl .null), (62, 1, .iload_n 0, 0, 0, .inl .null), (63, 1, .iconst 4, 0, 0, .inl (.int 4)), (64, 3, .if_icmp .le 10, 74, 0, .inl .null), (67, 3, .iinc 1 2, 1, 0, .inl (.int 2)), (70, 1, .iload_n 0, 0, 0, .inl .null), (71, 1, .iconst 2, 0, 0, .inl (.int 2)), (72, 1, .iushr, 0, 0, .inl .null), (73, 1, .istore_n 0, 0, 0, .inl .null), (74, 1, .iload_n 1, 1, 0, .inl .null), (75, 1, .iload_n 0, 0, 0, .inl .null), (76, 1, .iconst 1, 0, 0, .inl (.int 1)), (77, 1, .iushr, 0, 0, .inl .null), (78, 1, .iadd, 0, 0, .inl .null), (79, 1, .ireturn, 0, 0, .inl .null)]
def cd_J9_floorMod_7cf53 : List gE := [(0, 1, .iload_n 0, 0, 0, .inl .null), (1, 1, .iload_n 1, 1, 0, .inl .null), (2, 1, .irem, 0, 0, .inl .null), (3, 1, .istore_n 2, 2, 0, .inl .null), (4, 1, .iload_n 0, 0, 0, .inl .null), (5, 1, .iload_n 1, 1, 0, .inl .null), (6, 1, .ixor, 0, 0, .inl .null), (7, 3, .ifCond .ge 11, 18, 0, .inl .null), (10, 1, .iload_n 2, 2, 0, .inl .null), (11, 3, .ifCond .eq 7, 18, 0, .inl .null), (14, 1, .iload_n 2, 2, 0, .inl .null), (15, 1, .iload_n 1, 1, 0, .inl .null), (16, 1, .iadd, 0, 0, .inl .null), (17, 1, .ireturn, 0, 0, .inl .null), (18, 1, .iload_n 2, 2, 0, .inl .null), (19, 1, .ireturn, 0, 0, .inl .null)]
def cd_J9_abs_0f7a4 : List gE := [(0, 1, .iload_n 0, 0, 0, .inl .null), (1, 3, .ifCond .ge 8, 9, 0, .inl .null), (4, 1, .iload_n 0, 0, 0, .inl .null), (5, 1, .ineg, 0, 0, .inl .null), (6, 3, .goto 4, 10, 0, .inl .null), (9, 1, .iload_n 0, 0, 0, .inl .null), (10, 1, .ireturn, 0, 0, .inl .null)]
def cd_J9_abs_067f4 : List gE := [(0, 1, .lload_n 0, 0, 0, .inl .null), (1, 1, .lconst 0, 0, 0, .inl (.long 0)), (2, 1, .lcmp, 0, 0, .inl .null), (3, 3, .ifCond .ge 8, 11, 0, .inl .null), (6, 1, .lload_n 0, 0, 0, .inl .null), (7, 1, .lneg, 0, 0, .inl .null), (8, 3, .goto 4, 12, 0, .inl .null), (11, 1, .lload_n 0, 0, 0, .inl .null), (12, 1, .lreturn, 0, 0, .inl .null)]
def cd_J9_max_7cf53 : List gE := [(0, 1, .iload_n 0, 0, 0, .inl .null), (1, 1, .iload_n 1, 1, 0, .inl .null), (2, 3, .if_icmp .lt 7, 9, 0, .inl .null), (5, 1, .iload_n 0, 0, 0, .inl .null), (6, 3, .goto 4, 10, 0, .inl .null), (9, 1, .iload_n 1, 1, 0, .inl .null), (10, 1, .ireturn, 0, 0, .inl .null)]
def cd_J9_min_7cf53 : List gE := [(0, 1, .iload_n 0, 0, 0, .inl .null), (1, 1, .iload_n 1, 1, 0, .inl .null), (2, 3, .if_icmp .gt 7, 9, 0, .inl .null), (5, 1, .iload_n 0, 0, 0, .inl .null), (6, 3, .goto 4, 10, 0, .inl .null), (9, 1, .iload_n 1, 1, 0, .inl .null), (10, 1, .ireturn, 0, 0, .inl .null)]
def cd_J7_fill_d0a16 : List gE := [(0, 1, .iconst 0, 0, 0, .inl (.int 0)), (1, 1, .istore_n 3, 3, 0, .inl .null), (2, 1, .aload_n 0, 0, 0, .inl .null), (3, 1, .arraylength, 0, 0, .inl .null), (4, 2, .istore 4, 4, 0, .inl .null), (6, 1, .iload_n 3, 3, 0, .inl .null), (7, 2, .iload 4, 4, 0, .inl .null), (9, 3, .if_icmp .ge 13, 22, 0, .inl .null), (12, 1, .aload_n 0, 0, 0, .inl .null), (13, 1, .iload_n 3, 3, 0, .inl .null), (14, 1, .lload_n 1, 1, 0, .inl .null), (15, 1, .lastore, 0, 0, .inl .null), (16, 3, .iinc 3 1, 3, 0, .inl (.int 1)), (19, 3, .goto (-13), 6, 0, .inl .null), (22, 1, .return_, 0, 0, .inl .null)]
def cd_J7_fill_53178 : List gE := [(0, 1, .iconst 0, 0, 0, .inl (.int 0)), (1, 1, .istore_n 2, 2, 0, .inl .null), (2, 1, .aload_n 0, 0, 0, .inl .null), (3, 1, .arraylength, 0, 0, .inl .null), (4, 1, .istore_n 3, 3, 0, .inl .null), (5, 1, .iload_n 2, 2, 0, .inl .null), (6, 1, .iload_n 3, 3, 0, .inl .null), (7, 3, .if_icmp .ge 13, 20, 0, .inl .null), (10, 1, .aload_n 0, 0, 0, .inl .null), (11, 1, .iload_n 2, 2, 0, .inl .null), (12, 1, .iload_n 1, 1, 0, .inl .null), (13, 1, .iastore, 0, 0, .inl .null), (14, 3, .iinc 2 1, 2, 0, .inl (.int 1)), (17, 3, .goto (-12), 5, 0, .inl .null), (20, 1, .return_, 0, 0, .inl .null)]
set_option maxRecDepth 20000 in
def cd_L_law : List gE := [(0, 3, .new 180, 0, 0, .inl .null), (3, 1, .dup, 0, 0, .inl .null), (4, 1, .aload_n 0, 0, 0, .inl .null), (5, 3, .invokespecial 255, 0, 0, .inl .null), (8, 1, .astore_n 1, 1, 0, .inl .null), (9, 3, .new 155, 0, 0, .inl .null), (12, 1, .dup, 0, 0, .inl .null), (13, 1, .aload_n 1, 1, 0, .inl .null), (14, 3, .invokespecial 258, 0, 0, .inl .null), (17, 1, .astore_n 2, 2, 0, .inl .null), (18, 3, .new 18, 0, 0, .inl .null), (21, 1, .dup, 0, 0, .inl .null), (22, 3, .invokespecial 261, 0, 0, .inl .null), (25, 1, .astore_n 3, 3, 0, .inl .null), (26, 1, .aload_n 3, 3, 0, .inl .null), (27, 2, .bipush 34, 0, 0, .inl (.int 34)), (29, 1, .iconst 0, 0, 0, .inl (.int 0)), (30, 1, .iconst 0, 0, 0, .inl (.int 0)), (31, 1, .iconst 0, 0, 0, .inl (.int 0)), (32, 3, .invokestatic 190, 151, 5, .inr (1, 154, 1824)), (35, 1, .iconst 1, 0, 0, .inl (.int 1)), (36, 3, .if_icmp .ne 56, 92, 0, .inl .null), (39, 1, .aload_n 3, 3, 0, .inl .null), (40, 1, .iconst 1, 0, 0, .inl (.int 1)), (41, 1, .iconst 0, 0, 0, .inl (.int 0)), (42, 1, .iconst 0, 0, 0, .inl (.int 0)), (43, 1, .iconst 0, 0, 0, .inl (.int 0)), (44, 3, .invokestatic 190, 151, 5, .inr (1, 154, 1824)), (47, 1, .iconst 1, 0, 0, .inl (.int 1)), (48, 3, .if_icmp .ne 44, 92, 0, .inl .null), (51, 1, .aload_n 3, 3, 0, .inl .null), (52, 2, .bipush 30, 0, 0, .inl (.int 30)), (54, 1, .iconst 0, 0, 0, .inl (.int 0)), (55, 1, .iconst 0, 0, 0, .inl (.int 0)), (56, 1, .iconst 0, 0, 0, .inl (.int 0)), (57, 3, .invokestatic 190, 151, 5, .inr (1, 154, 1824)), (60, 1, .iconst 1, 0, 0, .inl (.int 1)), (61, 3, .if_icmp .ne 31, 92, 0, .inl .null), (64, 1, .aload_n 3, 3, 0, .inl .null), (65, 3, .invokevirtual 151, 57, 49, .inr (1, 0, 0)), (68, 3, .ifCond .ne 24, 92, 0, .inl .null), (71, 1, .aload_n 3, 3, 0, .inl .null), (72, 3, .invokevirtual 159, 58, 49, .inr (1, 0, 0)), (75, 3, .ifCond .ne 17, 92, 0, .inl .null), (78, 1, .aload_n 3, 3, 0, .inl .null), (79, 3, .invokevirtual 262, 96, 49, .inr (1, 0, 0)), (82, 3, .ifCond .ne 10, 92, 0, .inl .null), (85, 1, .aload_n 3, 3, 0, .inl .null), (86, 3, .invokevirtual 265, 107, 49, .inr (1, 0, 0)), (89, 3, .ifCond .eq 5, 94, 0, .inl .null), (92, 1, .iconst 0, 0, 0, .inl (.int 0)), (93, 1, .ireturn, 0, 0, .inl .null), (94, 1, .aload_n 3, 3, 0, .inl .null), (95, 1, .aload_n 2, 2, 0, .inl .null), (96, 3, .getfield 268, 49, 0, .inl .null), (99, 3, .invokevirtual 272, 0, 0, .inl .null), (102, 3, .invokestatic 278, 149, 2, .inr (1, 21, 106)), (105, 1, .aload_n 2, 2, 0, .inl .null), (106, 3, .getfield 154, 49, 4, .inl .null), (109, 3, .if_icmp .ne 26, 135, 0, .inl .null), (112, 1, .aload_n 3, 3, 0, .inl .null), (113, 3, .invokevirtual 282, 54, 49, .inr (1, 0, 0)), (116, 3, .ifCond .ne 19, 135, 0, .inl .null), (119, 1, .aload_n 3, 3, 0, .inl .null), (120, 3, .invokevirtual 285, 55, 49, .inr (1, 0, 0)), (123, 1, .iconst (-1), 0, 0, .inl (.int (-1))), (124, 3, .if_icmp .ne 11, 135, 0, .inl .null), (127, 1, .aload_n 3, 3, 0, .inl .null), (128, 1, .aload_n 2, 2, 0, .inl .null), (129, 3, .invokestatic 288, 152, 2, .inr (1, 12, 72)), (132, 3, .ifCond .ne 5, 137, 0, .inl .null), (135, 1, .iconst 0, 0, 0, .inl (.int 0)), (136, 1, .ireturn, 0, 0, .inl .null), (137, 1, .aload_n 1, 1, 0, .inl .null), (138, 1, .iconst 1, 0, 0, .inl (.int 1)), (139, 2, .bipush 8, 0, 0, .inl (.int 8)), (141, 3, .invokevirtual 179, 131, 771, .inr (1, 0, 0)), (144, 2, .istore 4, 4, 0, .inl .null), (146, 2, .iload 4, 4, 0, .inl .null), (148, 3, .ifCond .le 53, 201, 0, .inl .null), (151, 1, .aload_n 3, 3, 0, .inl .null), (152, 1, .aload_n 2, 2, 0, .inl .null), (153, 1, .aload_n 1, 1, 0, .inl .null), (154, 3, .invokestatic 291, 154, 3, .inr (1, 630, 7380)), (157, 3, .ifCond .eq 36, 193, 0, .inl .null), (160, 1, .aload_n 3, 3, 0, .inl .null), (161, 1, .aload_n 2, 2, 0, .inl .null), (162, 3, .invokestatic 295, 156, 2, .inr (1, 815, 9420)), (165, 3, .ifCond .eq 28, 193, 0, .inl .null), (168, 1, .aload_n 3, 3, 0, .inl .null), (169, 1, .aload_n 2, 2, 0, .inl .null), (170, 3, .invokestatic 298, 158, 2, .inr (1, 315, 3690)), (173, 3, .ifCond .eq 20, 193, 0, .inl .null), (176, 1, .aload_n 3, 3, 0, .inl .null), (177, 1, .aload_n 2, 2, 0, .inl .null), (178, 1, .aload_n 1, 1, 0, .inl .null), (179, 3, .invokestatic 301, 153, 3, .inr (1, 374, 4644)), (182, 3, .ifCond .eq 11, 193, 0, .inl .null), (185, 1, .aload_n 3, 3, 0, .inl .null), (186, 1, .aload_n 2, 2, 0, .inl .null), (187, 3, .invokestatic 288, 152, 2, .inr (1, 12, 72)), (190, 3, .ifCond .ne 5, 195, 0, .inl .null), (193, 1, .iconst 0, 0, 0, .inl (.int 0)), (194, 1, .ireturn, 0, 0, .inl .null), (195, 3, .iinc 4 (-1), 4, 0, .inl (.int (-1))), (198, 3, .goto (-52), 146, 0, .inl .null), (201, 1, .aload_n 3, 3, 0, .inl .null), (202, 1, .iconst 0, 0, 0, .inl (.int 0)), (203, 1, .aload_n 2, 2, 0, .inl .null), (204, 3, .getfield 154, 49, 4, .inl .null), (207, 1, .iconst 0, 0, 0, .inl (.int 0)), (208, 1, .iconst 0, 0, 0, .inl (.int 0)), (209, 3, .invokestatic 190, 151, 5, .inr (1, 154, 1824)), (212, 1, .iconst 2, 0, 0, .inl (.int 2)), (213, 3, .if_icmp .ne 89, 302, 0, .inl .null), (216, 1, .aload_n 3, 3, 0, .inl .null), (217, 1, .iconst 1, 0, 0, .inl (.int 1)), (218, 1, .iconst 0, 0, 0, .inl (.int 0)), (219, 1, .aload_n 2, 2, 0, .inl .null), (220, 3, .getfield 154, 49, 4, .inl .null), (223, 1, .iconst 0, 0, 0, .inl (.int 0)), (224, 3, .invokestatic 190, 151, 5, .inr (1, 154, 1824)), (227, 1, .iconst 2, 0, 0, .inl (.int 2)), (228, 3, .if_icmp .ne 74, 302, 0, .inl .null), (231, 1, .aload_n 3, 3, 0, .inl .null), (232, 1, .iconst 2, 0, 0, .inl (.int 2)), (233, 1, .iconst (-1), 0, 0, .inl (.int (-1))), (234, 1, .iconst 0, 0, 0, .inl (.int 0)), (235, 1, .iconst 0, 0, 0, .inl (.int 0)), (236, 3, .invokestatic 190, 151, 5, .inr (1, 154, 1824)), (239, 1, .iconst 2, 0, 0, .inl (.int 2)), (240, 3, .if_icmp .ne 62, 302, 0, .inl .null), (243, 1, .aload_n 3, 3, 0, .inl .null), (244, 1, .iconst 3, 0, 0, .inl (.int 3)), (245, 1, .aload_n 2, 2, 0, .inl .null), (246, 3, .getfield 154, 49, 4, .inl .null), (249, 1, .iconst 0, 0, 0, .inl (.int 0)), (250, 1, .iconst 0, 0, 0, .inl (.int 0)), (251, 3, .invokestatic 190, 151, 5, .inr (1, 154, 1824)), (254, 1, .iconst 2, 0, 0, .inl (.int 2)), (255, 3, .if_icmp .ne 47, 302, 0, .inl .null), (258, 1, .aload_n 3, 3, 0, .inl .null), (259, 2, .bipush 22, 0, 0, .inl (.int 22)), (261, 1, .iconst 0, 0, 0, .inl (.int 0)), (262, 2, .bipush (-51), 0, 0, .inl (.int (-51))), (264, 1, .iconst 0, 0, 0, .inl (.int 0)), (265, 3, .invokestatic 190, 151, 5, .inr (1, 154, 1824)), (268, 1, .iconst 3, 0, 0, .inl (.int 3)), (269, 3, .if_icmp .ne 33, 302, 0, .inl .null), (272, 1, .aload_n 3, 3, 0, .inl .null), (273, 2, .bipush 23, 0, 0, .inl (.int 23)), (275, 1, .iconst 0, 0, 0, .inl (.int 0)), (276, 3, .sipush 1000, 0, 0, .inl (.int 1000)), (279, 1, .iconst 0, 0, 0, .inl (.int 0)), (280, 3, .invokestatic 190, 151, 5, .inr (1, 154, 1824)), (283, 1, .iconst 3, 0, 0, .inl (.int 3)), (284, 3, .if_icmp .ne 18, 302, 0, .inl .null), (287, 1, .aload_n 3, 3, 0, .inl .null), (288, 2, .bipush 24, 0, 0, .inl (.int 24)), (290, 1, .iconst 0, 0, 0, .inl (.int 0)), (291, 3, .sipush (-1000), 0, 0, .inl (.int (-1000))), (294, 1, .iconst 0, 0, 0, .inl (.int 0)), (295, 3, .invokestatic 190, 151, 5, .inr (1, 154, 1824)), (298, 1, .iconst 3, 0, 0, .inl (.int 3)), (299, 3, .if_icmp .eq 5, 304, 0, .inl .null), (302, 1, .iconst 0, 0, 0, .inl (.int 0)), (303, 1, .ireturn, 0, 0, .inl .null), (304, 1, .aload_n 3, 3, 0, .inl .null), (305, 2, .bipush 25, 0, 0, .inl (.int 25)), (307, 1, .iconst 4, 0, 0, .inl (.int 4)), (308, 1, .iconst 0, 0, 0, .inl (.int 0)), (309, 1, .iconst 0, 0, 0, .inl (.int 0)), (310, 3, .invokestatic 190, 151, 5, .inr (1, 154, 1824)), (313, 1, .iconst 3, 0, 0, .inl (.int 3)), (314, 3, .if_icmp .ne 56, 370, 0, .inl .null), (317, 1, .aload_n 3, 3, 0, .inl .null), (318, 2, .bipush 25, 0, 0, .inl (.int 25)), (320, 2, .bipush 37, 0, 0, .inl (.int 37)), (322, 1, .iconst 0, 0, 0, .inl (.int 0)), (323, 1, .iconst 0, 0, 0, .inl (.int 0)), (324, 3, .invokestatic 190, 151, 5, .inr (1, 154, 1824)), (327, 1, .iconst 3, 0, 0, .inl (.int 3)), (328, 3, .if_icmp .ne 42, 370, 0, .inl .null), (331, 1, .aload_n 3, 3, 0, .inl .null), (332, 2, .bipush 29, 0, 0, .inl (.int 29)), (334, 1, .iconst 0, 0, 0, .inl (.int 0)), (335, 1, .iconst 0, 0, 0, .inl (.int 0)), (336, 1, .iconst 0, 0, 0, .inl (.int 0)), (337, 3, .invokestatic 190, 151, 5, .inr (1, 154, 1824)), (340, 1, .iconst 3, 0, 0, .inl (.int 3)), (341, 3, .if_icmp .ne 29, 370, 0, .inl .null), (344, 1, .aload_n 3, 3, 0, .inl .null), (345, 2, .bipush 29, 0, 0, .inl (.int 29)), (347, 2, .bipush 41, 0, 0, .inl (.int 41)), (349, 1, .iconst 0, 0, 0, .inl (.int 0)), (350, 1, .iconst 0, 0, 0, .inl (.int 0)), (351, 3, .invokestatic 190, 151, 5, .inr (1, 154, 1824)), (354, 1, .iconst 3, 0, 0, .inl (.int 3)), (355, 3, .if_icmp .ne 15, 370, 0, .inl .null), (358, 1, .aload_n 3, 3, 0, .inl .null), (359, 1, .aload_n 2, 2, 0, .inl .null), (360, 3, .invokestatic 288, 152, 2, .inr (1, 12, 72)), (363, 3, .ifCond .eq 7, 370, 0, .inl .null), (366, 1, .iconst 1, 0, 0, .inl (.int 1)), (367, 3, .goto 4, 371, 0, .inl .null), (370, 1, .iconst 0, 0, 0, .inl (.int 0)), (371, 1, .ireturn, 0, 0, .inl .null)]
def hyT0 : List MethodName := [yX0_find, yX0_solve, yX0_rowTimes, yX0_isLarge, yX0_greatestDivisor, yX0_commonMultiple, yX1_take, yX1_height, yX1_at, yX1_put, yX1_determinant, yX1_eliminate, yX1_pivotRow, yX1_leadRow, yX1_clearColumn, yX1_inverseOf, yX1_ofKernel, yX1_displace, yX2_remember, yX2_takeLatest, yX2_forget, yX3_putWord, yX3_parse, yX3_readHead, yX3_readLine, yX3_readRange, yX3_readRangeValue, yX3_readPart, yX3_reachNumber, yX3_isWord, yX3_fail, yX3_advance, yX3_runEnd, yX3_readDecimals, yX3_byteAt, yX4_prepare, yX4_ofInverse, yX4_addDigit, yX4_nextRest, yX4_liftAndEnter]
def hyT1 : List MethodName := [yX5_component, yX5_find, yX5_keep, yX5_subtract, yX6_clear, yX6_become, yX6_along, yX6_putAlong, yX6_beginRefinement, yX6_digitLimit, yX6_digitOf, yX6_enter, yX7_append, yX7_load, yX7_parseError, yX7_errorPosition, yX1_height, yX7_size, yX7_prime, yX7_diagonal, yX7_entry, yX7_side, yX7_probe, yX7_minor, yX7_rank, yX7_isRegular, yX7_steps, yX7_stepEnd, yX7_longestJump, yX7_tail, yX7_regularPrimes, yX7_minorIf, yX7_schur, yX7_displacement, yX7_generators, yX7_generator, yX1_height, yX7_solution, yX7_inverse, yX7_kernel]
def hyT2 : List MethodName := [yX7_isSolvable, yX7_digits, yX1_height, yX7_digit, yX7_residual, yX7_value, yX1_height, yX7_numerator, yX1_height, yX1_height, yX1_height, yX1_height, yX7_product, yX7_circulant, yX7_wrapped, yX7_probeSolves, yX7_entries, yX7_accountOf, yX7_setDiagonal, yX7_setSide, yX7_setProbe, yX7_setPrime, yX7_grow, yX7_shrink, yX7_lift, yX7_refine, yX7_undo, yX7_undoable, yX7_save, yX7_restore, yX7_requireSystem, yX7_requireRow, yX7_requireBehind, yX7_requireWrappedRow, yX7_requireDiagonal, yX7_requireSize, yX7_requireSlot, yX7_requireWithin, yX7_requireFraction, yX7_requireLifter]
def hyT3 : List MethodName := [yX7_isListed, yX7_reduced, yX7_leadingMinor, yX7_findSteps, yX7_startBehind, yX7_complementBehind, yX7_pairsBehind, yX7_eliminateWithSides, yX7_timesProbe, yX7_aroundCircle, yX1_height, yX8_next, yX9_at, yX9_mod, yX9_mod_, yX9_undone, yX9_det0, yX9_det1, yX9_det2, yX9_det3, yX9_det4, yX9_det5, yX9_first, yX9_minor, yX9_isRegular, yX9_areFree, yX9_rank, yX9_product, yL_feeds, yL_tell, yL_calls, yL_thrown, yL_isLike, yL_act, yL_minors, yL_with, yL_solutions, yL_kernel, yL_products, yX1_height]
def hyT4 : List MethodName := [yX1_height, yX1_height, yX1_height, yX1_height, yX1_height, yX1_height, yX1_height, yX1_height, yX1_height, yX1_height, yJ6_bitCount_0f7a4, yJ6_numberOfTrailingZeros_0f7a4, yX1_height, yX1_height, yX1_height, yX1_height, yX1_height, yX1_height, yX1_height, yX1_height, yX1_height, yX1_height, yX1_height, yX1_height, yX1_height, yX1_height, yX1_height, yX1_height, yX1_height, yX1_height, yX1_height, yX1_height, yX1_height, yX1_height, yX1_height, yX1_height, yX1_height, yX1_height, yX1_height, yX1_height]
def hyT5 : List MethodName := [yX1_height, yX1_height, yX1_height, yX1_height, yX1_height, yX1_height, yX1_height, yX1_height, yX1_height, yX1_height, yX1_height, yX1_height, yX1_height, yX1_height, yX1_height, yX1_height, yX1_height, yX1_height, yX1_height, yX1_height, yX1_height, yX1_height, yX1_height, yX1_height, yX1_height, yX1_height, yX1_height, yX1_height, yX1_height, yX1_height, yX1_height, yX1_height, yX1_height, yX1_height, yX1_height, yX1_height, yX1_height, yX1_height, yX1_height, yX1_height]
def hyT6 : List MethodName := [yX1_height, yX1_height, yX1_height, yX1_height, yX1_height, yX1_height, yX1_height, yX1_height, yX1_height, yX1_height, yX1_height, yX1_height, yX1_height, yX1_height, yX1_height, yX1_height, yX1_height, yX1_height, yX1_height, yX1_height, yX1_height, yX1_height, yX1_height, yX1_height, yX1_height, yX1_height, yX1_height, yX1_height, yX1_height, yX1_height, yX1_height, yX1_height, yX1_height, yX1_height, yX1_height, yX1_height, yX1_height, yX1_height, yX1_height, yX1_height]
def hyT7 : List MethodName := [yX1_height, yX1_height, yX1_height, yX1_height, yX1_height, yX1_height, yX1_height, yX1_height, yX1_height, yX1_height, yX1_height, yX1_height, yX1_height, yX1_height, yX1_height, yX1_height, yX1_height, yX1_height, yX1_height, yX1_height, yX1_height, yX1_height, yX1_height, yX1_height, yJ9_floorMod_7cf53, yJ9_abs_0f7a4, yJ9_abs_067f4, yJ9_max_7cf53, yJ9_min_7cf53, yJ7_fill_d0a16, yJ7_fill_53178, yJ0_length_8abf5, yJ0_charAt_5068e, yL_law]
def hy (y : Nat) : MethodName := match y / 40 with
  | 0 => hyT0.getD (y % 40) yL_law
  | 1 => hyT1.getD (y % 40) yL_law
  | 2 => hyT2.getD (y % 40) yL_law
  | 3 => hyT3.getD (y % 40) yL_law
  | 4 => hyT4.getD (y % 40) yL_law
  | 5 => hyT5.getD (y % 40) yL_law
  | 6 => hyT6.getD (y % 40) yL_law
  | 7 => hyT7.getD (y % 40) yL_law
  | _ => yL_law
def hbT0 : List ByteArray := [cX0_find, cX0_solve, cX0_rowTimes, cX0_isLarge, cX0_greatestDivisor, cX0_commonMultiple, cX1_take, cX1_height, cX1_at, cX1_put, cX1_determinant, cX1_eliminate, cX1_pivotRow, cX1_leadRow, cX1_clearColumn, cX1_inverseOf, cX1_ofKernel, cX1_displace, cX2_remember, cX2_takeLatest, cX2_forget, cX3_putWord, cX3_parse, cX3_readHead, cX3_readLine, cX3_readRange, cX3_readRangeValue, cX3_readPart, cX3_reachNumber, cX3_isWord, cX3_fail, cX3_advance, cX3_runEnd, cX3_readDecimals, cX3_byteAt, cX4_prepare, cX4_ofInverse, cX4_addDigit, cX4_nextRest, cX4_liftAndEnter]
def hbT1 : List ByteArray := [cX5_component, cX5_find, cX5_keep, cX5_subtract, cX6_clear, cX6_become, cX6_along, cX6_putAlong, cX6_beginRefinement, cX6_digitLimit, cX6_digitOf, cX6_enter, cX7_append, cX7_load, cX7_parseError, cX7_errorPosition, cX1_height, cX7_size, cX7_prime, cX7_diagonal, cX7_entry, cX7_side, cX7_probe, cX7_minor, cX7_rank, cX7_isRegular, cX7_steps, cX7_stepEnd, cX7_longestJump, cX7_tail, cX7_regularPrimes, cX7_minorIf, cX7_schur, cX7_displacement, cX7_generators, cX7_generator, cX1_height, cX7_solution, cX7_inverse, cX7_kernel]
def hbT2 : List ByteArray := [cX7_isSolvable, cX7_digits, cX1_height, cX7_digit, cX7_residual, cX7_value, cX1_height, cX7_numerator, cX1_height, cX1_height, cX1_height, cX1_height, cX7_product, cX7_circulant, cX7_wrapped, cX7_probeSolves, cX7_entries, cX7_accountOf, cX7_setDiagonal, cX7_setSide, cX7_setProbe, cX7_setPrime, cX7_grow, cX7_shrink, cX7_lift, cX7_refine, cX7_undo, cX7_undoable, cX7_save, cX7_restore, cX7_requireSystem, cX7_requireRow, cX7_requireBehind, cX7_requireWrappedRow, cX7_requireDiagonal, cX7_requireSize, cX7_requireSlot, cX7_requireWithin, cX7_requireFraction, cX7_requireLifter]
def hbT3 : List ByteArray := [cX7_isListed, cX7_reduced, cX7_leadingMinor, cX7_findSteps, cX7_startBehind, cX7_complementBehind, cX7_pairsBehind, cX7_eliminateWithSides, cX7_timesProbe, cX7_aroundCircle, cX1_height, cX8_next, cX9_at, cX9_mod, cX9_mod_, cX9_undone, cX9_det0, cX9_det1, cX9_det2, cX9_det3, cX9_det4, cX9_det5, cX9_first, cX9_minor, cX9_isRegular, cX9_areFree, cX9_rank, cX9_product, cL_feeds, cL_tell, cL_calls, cL_thrown, cL_isLike, cL_act, cL_minors, cL_with, cL_solutions, cL_kernel, cL_products, cX1_height]
def hbT4 : List ByteArray := [cX1_height, cX1_height, cX1_height, cX1_height, cX1_height, cX1_height, cX1_height, cX1_height, cX1_height, cX1_height, cJ6_bitCount_0f7a4, cJ6_numberOfTrailingZeros_0f7a4, cX1_height, cX1_height, cX1_height, cX1_height, cX1_height, cX1_height, cX1_height, cX1_height, cX1_height, cX1_height, cX1_height, cX1_height, cX1_height, cX1_height, cX1_height, cX1_height, cX1_height, cX1_height, cX1_height, cX1_height, cX1_height, cX1_height, cX1_height, cX1_height, cX1_height, cX1_height, cX1_height, cX1_height]
def hbT5 : List ByteArray := [cX1_height, cX1_height, cX1_height, cX1_height, cX1_height, cX1_height, cX1_height, cX1_height, cX1_height, cX1_height, cX1_height, cX1_height, cX1_height, cX1_height, cX1_height, cX1_height, cX1_height, cX1_height, cX1_height, cX1_height, cX1_height, cX1_height, cX1_height, cX1_height, cX1_height, cX1_height, cX1_height, cX1_height, cX1_height, cX1_height, cX1_height, cX1_height, cX1_height, cX1_height, cX1_height, cX1_height, cX1_height, cX1_height, cX1_height, cX1_height]
def hbT6 : List ByteArray := [cX1_height, cX1_height, cX1_height, cX1_height, cX1_height, cX1_height, cX1_height, cX1_height, cX1_height, cX1_height, cX1_height, cX1_height, cX1_height, cX1_height, cX1_height, cX1_height, cX1_height, cX1_height, cX1_height, cX1_height, cX1_height, cX1_height, cX1_height, cX1_height, cX1_height, cX1_height, cX1_height, cX1_height, cX1_height, cX1_height, cX1_height, cX1_height, cX1_height, cX1_height, cX1_height, cX1_height, cX1_height, cX1_height, cX1_height, cX1_height]
def hbT7 : List ByteArray := [cX1_height, cX1_height, cX1_height, cX1_height, cX1_height, cX1_height, cX1_height, cX1_height, cX1_height, cX1_height, cX1_height, cX1_height, cX1_height, cX1_height, cX1_height, cX1_height, cX1_height, cX1_height, cX1_height, cX1_height, cX1_height, cX1_height, cX1_height, cX1_height, cJ9_floorMod_7cf53, cJ9_abs_0f7a4, cJ9_abs_067f4, cJ9_max_7cf53, cJ9_min_7cf53, cJ7_fill_d0a16, cJ7_fill_53178, cJ0_length_8abf5, cJ0_charAt_5068e, cL_law]
def hb (y : Nat) : ByteArray := match y / 40 with
  | 0 => hbT0.getD (y % 40) cL_law
  | 1 => hbT1.getD (y % 40) cL_law
  | 2 => hbT2.getD (y % 40) cL_law
  | 3 => hbT3.getD (y % 40) cL_law
  | 4 => hbT4.getD (y % 40) cL_law
  | 5 => hbT5.getD (y % 40) cL_law
  | 6 => hbT6.getD (y % 40) cL_law
  | 7 => hbT7.getD (y % 40) cL_law
  | _ => cL_law
def hmlT0 : List Nat := [20, 5, 8, 6, 11, 6, 7, 1, 3, 4, 1, 6, 5, 8, 6, 3, 2, 4, 2, 1, 1, 3, 3, 1, 1, 5, 2, 5, 5, 3, 2, 4, 5, 3, 2, 4, 3, 6, 5, 4]
def hmlT1 : List Nat := [4, 7, 8, 7, 1, 2, 3, 4, 1, 4, 6, 4, 6, 3, 1, 1, 1, 1, 1, 2, 3, 2, 2, 2, 1, 1, 1, 2, 4, 1, 3, 4, 5, 5, 2, 6, 1, 2, 3, 3]
def hmlT2 : List Nat := [3, 1, 1, 3, 2, 2, 1, 2, 1, 1, 1, 1, 2, 3, 4, 2, 1, 3, 4, 4, 4, 3, 5, 1, 1, 5, 2, 1, 2, 3, 1, 2, 3, 2, 2, 2, 1, 2, 2, 1]
def hmlT3 : List Nat := [5, 2, 3, 3, 3, 2, 2, 3, 4, 4, 1, 4, 3, 4, 3, 3, 9, 9, 9, 9, 9, 9, 2, 2, 1, 3, 3, 4, 5, 2, 5, 6, 5, 10, 14, 6, 6, 12, 9, 1]
def hmlT4 : List Nat := [1, 1, 1, 1, 1, 1, 1, 1, 1, 1, 1, 2, 1, 1, 1, 1, 1, 1, 1, 1, 1, 1, 1, 1, 1, 1, 1, 1, 1, 1, 1, 1, 1, 1, 1, 1, 1, 1, 1, 1]
def hmlT5 : List Nat := [1, 1, 1, 1, 1, 1, 1, 1, 1, 1, 1, 1, 1, 1, 1, 1, 1, 1, 1, 1, 1, 1, 1, 1, 1, 1, 1, 1, 1, 1, 1, 1, 1, 1, 1, 1, 1, 1, 1, 1]
def hmlT6 : List Nat := [1, 1, 1, 1, 1, 1, 1, 1, 1, 1, 1, 1, 1, 1, 1, 1, 1, 1, 1, 1, 1, 1, 1, 1, 1, 1, 1, 1, 1, 1, 1, 1, 1, 1, 1, 1, 1, 1, 1, 1]
def hmlT7 : List Nat := [1, 1, 1, 1, 1, 1, 1, 1, 1, 1, 1, 1, 1, 1, 1, 1, 1, 1, 1, 1, 1, 1, 1, 1, 3, 1, 2, 2, 2, 5, 4, 1, 2, 9]
def hml (y : Nat) : Nat := match y / 40 with
  | 0 => hmlT0.getD (y % 40) 0
  | 1 => hmlT1.getD (y % 40) 0
  | 2 => hmlT2.getD (y % 40) 0
  | 3 => hmlT3.getD (y % 40) 0
  | 4 => hmlT4.getD (y % 40) 0
  | 5 => hmlT5.getD (y % 40) 0
  | 6 => hmlT6.getD (y % 40) 0
  | 7 => hmlT7.getD (y % 40) 0
  | _ => 0
def hrT0 : List (Option FieldType) := [some .boolean, some .boolean, some .long, some .boolean, some .long, some .long, none, some .int, some .int, none, some .int, some .int, some .int, some .int, none, some .int, some .int, none, none, some (.object "ToeplitzLab$State"), none, none, some .boolean, some .boolean, some .boolean, some .boolean, some .boolean, some .boolean, some .boolean, some .boolean, some .boolean, none, some .int, some .int, some .int, some .boolean, some .int, none, some .int, some .boolean]
def hrT1 : List (Option FieldType) := [some .int, some .int, none, none, none, none, some .int, none, none, some .int, some .int, none, some .int, some .int, some .int, some .int, some .int, some .int, some .int, some .int, some .int, some .int, some .int, some .int, some .int, some .boolean, some .int, some .int, some .int, some .int, some .int, some .int, some .int, some .int, some .int, some .int, some .int, some .int, some .int, some .int]
def hrT2 : List (Option FieldType) := [some .boolean, some .int, some .int, some .int, some .int, some .long, some .int, some .int, some .int, some .int, some .int, some .int, some .int, some .int, some .int, some .boolean, some .int, some .int, some .int, some .int, some .int, some .int, some .int, some .int, some .int, some .int, some .int, some .int, some .int, some .int, none, none, none, none, none, none, none, none, none, none]
def hrT3 : List (Option FieldType) := [some .boolean, some .int, some .int, some .int, some .int, none, some .int, some .int, some .int, some .int, some .int, some .int, some .int, some .int, some .int, some .int, some .long, some .long, some .long, some .long, some .long, some .long, some .int, some .int, some .boolean, some .boolean, some .int, some .int, some .boolean, some .int, some .long, some .int, some .boolean, some .boolean, some .boolean, some .long, some .boolean, some .boolean, some .boolean, some .int]
def hrT4 : List (Option FieldType) := [some .int, some .int, some .int, some .int, some .int, some .int, some .int, some .int, some .int, some .int, some .int, some .int, some .int, some .int, some .int, some .int, some .int, some .int, some .int, some .int, some .int, some .int, some .int, some .int, some .int, some .int, some .int, some .int, some .int, some .int, some .int, some .int, some .int, some .int, some .int, some .int, some .int, some .int, some .int, some .int]
def hrT5 : List (Option FieldType) := [some .int, some .int, some .int, some .int, some .int, some .int, some .int, some .int, some .int, some .int, some .int, some .int, some .int, some .int, some .int, some .int, some .int, some .int, some .int, some .int, some .int, some .int, some .int, some .int, some .int, some .int, some .int, some .int, some .int, some .int, some .int, some .int, some .int, some .int, some .int, some .int, some .int, some .int, some .int, some .int]
def hrT6 : List (Option FieldType) := [some .int, some .int, some .int, some .int, some .int, some .int, some .int, some .int, some .int, some .int, some .int, some .int, some .int, some .int, some .int, some .int, some .int, some .int, some .int, some .int, some .int, some .int, some .int, some .int, some .int, some .int, some .int, some .int, some .int, some .int, some .int, some .int, some .int, some .int, some .int, some .int, some .int, some .int, some .int, some .int]
def hrT7 : List (Option FieldType) := [some .int, some .int, some .int, some .int, some .int, some .int, some .int, some .int, some .int, some .int, some .int, some .int, some .int, some .int, some .int, some .int, some .int, some .int, some .int, some .int, some .int, some .int, some .int, some .int, some .int, some .int, some .long, some .int, some .int, none, none, some .int, some .char, some .boolean]
def hr (y : Nat) : (Option FieldType) := match y / 40 with
  | 0 => hrT0.getD (y % 40) none
  | 1 => hrT1.getD (y % 40) none
  | 2 => hrT2.getD (y % 40) none
  | 3 => hrT3.getD (y % 40) none
  | 4 => hrT4.getD (y % 40) none
  | 5 => hrT5.getD (y % 40) none
  | 6 => hrT6.getD (y % 40) none
  | 7 => hrT7.getD (y % 40) none
  | _ => none
def hmcT0 : List Nat := [0, 0, 0, 0, 0, 0, 0, 0, 0, 0, 0, 0, 0, 0, 0, 0, 0, 0, 7, 0, 0, 0, 0, 0, 0, 0, 0, 0, 0, 0, 0, 0, 0, 0, 0, 0, 0, 0, 0, 0]
def hmcT1 : List Nat := [0, 0, 0, 0, 0, 0, 0, 0, 0, 0, 0, 0, 0, 1, 0, 0, 0, 0, 0, 2, 3, 2, 2, 2, 1, 1, 1, 2, 1, 1, 1, 4, 4, 4, 2, 4, 0, 3, 4, 3]
def hmcT2 : List Nat := [1, 1, 0, 3, 2, 2, 0, 3, 0, 0, 0, 0, 2, 3, 2, 1, 0, 2, 10, 10, 10, 9, 12, 9, 10, 10, 1, 0, 9, 2, 1, 1, 1, 1, 1, 1, 1, 1, 1, 1]
def hmcT3 : List Nat := [0, 0, 0, 0, 1, 0, 0, 0, 0, 0, 0, 0, 0, 0, 0, 0, 0, 0, 0, 0, 0, 0, 0, 0, 0, 0, 0, 0, 20, 21, 154, 154, 12, 374, 630, 0, 815, 7, 315, 0]
def hmcT4 : List Nat := [0, 0, 0, 0, 0, 0, 0, 0, 0, 0, 0, 0, 0, 0, 0, 0, 0, 0, 0, 0, 0, 0, 0, 0, 0, 0, 0, 0, 0, 0, 0, 0, 0, 0, 0, 0, 0, 0, 0, 0]
def hmcT5 : List Nat := [0, 0, 0, 0, 0, 0, 0, 0, 0, 0, 0, 0, 0, 0, 0, 0, 0, 0, 0, 0, 0, 0, 0, 0, 0, 0, 0, 0, 0, 0, 0, 0, 0, 0, 0, 0, 0, 0, 0, 0]
def hmcT6 : List Nat := [0, 0, 0, 0, 0, 0, 0, 0, 0, 0, 0, 0, 0, 0, 0, 0, 0, 0, 0, 0, 0, 0, 0, 0, 0, 0, 0, 0, 0, 0, 0, 0, 0, 0, 0, 0, 0, 0, 0, 0]
def hmcT7 : List Nat := [0, 0, 0, 0, 0, 0, 0, 0, 0, 0, 0, 0, 0, 0, 0, 0, 0, 0, 0, 0, 0, 0, 0, 0, 0, 0, 0, 0, 0, 0, 0, 0, 0, 300000]
def hmc (y : Nat) : Nat := match y / 40 with
  | 0 => hmcT0.getD (y % 40) 0
  | 1 => hmcT1.getD (y % 40) 0
  | 2 => hmcT2.getD (y % 40) 0
  | 3 => hmcT3.getD (y % 40) 0
  | 4 => hmcT4.getD (y % 40) 0
  | 5 => hmcT5.getD (y % 40) 0
  | 6 => hmcT6.getD (y % 40) 0
  | 7 => hmcT7.getD (y % 40) 0
  | _ => 0
def hmsT0 : List Nat := [0, 0, 0, 0, 0, 0, 0, 0, 0, 0, 0, 0, 0, 0, 0, 0, 0, 0, 142, 0, 0, 0, 0, 0, 0, 0, 0, 0, 0, 0, 0, 0, 0, 0, 0, 0, 0, 0, 0, 0]
def hmsT1 : List Nat := [0, 0, 0, 0, 0, 0, 0, 0, 0, 0, 0, 0, 0, 6, 0, 0, 0, 0, 0, 12, 18, 12, 12, 12, 6, 6, 6, 12, 6, 6, 6, 24, 24, 24, 12, 24, 0, 18, 24, 18]
def hmsT2 : List Nat := [6, 6, 0, 18, 12, 12, 0, 18, 0, 0, 0, 0, 12, 18, 12, 6, 0, 12, 160, 160, 160, 154, 172, 154, 160, 160, 6, 0, 154, 12, 6, 6, 6, 6, 6, 6, 6, 6, 6, 6]
def hmsT3 : List Nat := [0, 0, 0, 0, 6, 0, 0, 0, 0, 0, 0, 0, 0, 0, 0, 0, 0, 0, 0, 0, 0, 0, 0, 0, 0, 0, 0, 0, 100, 106, 1824, 1824, 72, 4644, 7380, 0, 9420, 42, 3690, 0]
def hmsT4 : List Nat := [0, 0, 0, 0, 0, 0, 0, 0, 0, 0, 0, 0, 0, 0, 0, 0, 0, 0, 0, 0, 0, 0, 0, 0, 0, 0, 0, 0, 0, 0, 0, 0, 0, 0, 0, 0, 0, 0, 0, 0]
def hmsT5 : List Nat := [0, 0, 0, 0, 0, 0, 0, 0, 0, 0, 0, 0, 0, 0, 0, 0, 0, 0, 0, 0, 0, 0, 0, 0, 0, 0, 0, 0, 0, 0, 0, 0, 0, 0, 0, 0, 0, 0, 0, 0]
def hmsT6 : List Nat := [0, 0, 0, 0, 0, 0, 0, 0, 0, 0, 0, 0, 0, 0, 0, 0, 0, 0, 0, 0, 0, 0, 0, 0, 0, 0, 0, 0, 0, 0, 0, 0, 0, 0, 0, 0, 0, 0, 0, 0]
def hmsT7 : List Nat := [0, 0, 0, 0, 0, 0, 0, 0, 0, 0, 0, 0, 0, 0, 0, 0, 0, 0, 0, 0, 0, 0, 0, 0, 0, 0, 0, 0, 0, 0, 0, 0, 0, 4000000]
def hms (y : Nat) : Nat := match y / 40 with
  | 0 => hmsT0.getD (y % 40) 0
  | 1 => hmsT1.getD (y % 40) 0
  | 2 => hmsT2.getD (y % 40) 0
  | 3 => hmsT3.getD (y % 40) 0
  | 4 => hmsT4.getD (y % 40) 0
  | 5 => hmsT5.getD (y % 40) 0
  | 6 => hmsT6.getD (y % 40) 0
  | 7 => hmsT7.getD (y % 40) 0
  | _ => 0
def hfrT0 : List Nat := [3, 4, 2, 2, 2, 3, 3, 1, 1, 3, 1, 4, 1, 3, 3, 1, 3, 4, 4, 1, 1, 1, 8, 7, 7, 5, 5, 5, 4, 6, 1, 3, 2, 2, 1, 5, 2, 3, 2, 5]
def hfrT1 : List Nat := [1, 5, 3, 4, 3, 2, 1, 1, 2, 1, 1, 2, 2, 9, 1, 1, 1, 1, 1, 8, 8, 8, 8, 8, 8, 8, 8, 8, 8, 8, 8, 8, 8, 8, 8, 8, 1, 8, 8, 8]
def hfrT2 : List Nat := [8, 8, 1, 8, 8, 8, 1, 8, 1, 1, 1, 1, 8, 8, 8, 8, 1, 8, 8, 8, 8, 8, 8, 8, 8, 8, 7, 1, 8, 8, 7, 7, 7, 7, 7, 7, 7, 7, 7, 7]
def hfrT3 : List Nat := [1, 2, 5, 6, 7, 5, 6, 5, 2, 3, 1, 1, 1, 1, 2, 3, 1, 2, 3, 4, 5, 6, 1, 7, 8, 7, 8, 2, 6, 10, 10, 11, 9, 12, 12, 7, 12, 9, 12, 1]
def hfrT4 : List Nat := [1, 1, 1, 1, 1, 1, 1, 1, 1, 1, 1, 1, 1, 1, 1, 1, 1, 1, 1, 1, 1, 1, 1, 1, 1, 1, 1, 1, 1, 1, 1, 1, 1, 1, 1, 1, 1, 1, 1, 1]
def hfrT5 : List Nat := [1, 1, 1, 1, 1, 1, 1, 1, 1, 1, 1, 1, 1, 1, 1, 1, 1, 1, 1, 1, 1, 1, 1, 1, 1, 1, 1, 1, 1, 1, 1, 1, 1, 1, 1, 1, 1, 1, 1, 1]
def hfrT6 : List Nat := [1, 1, 1, 1, 1, 1, 1, 1, 1, 1, 1, 1, 1, 1, 1, 1, 1, 1, 1, 1, 1, 1, 1, 1, 1, 1, 1, 1, 1, 1, 1, 1, 1, 1, 1, 1, 1, 1, 1, 1]
def hfrT7 : List Nat := [1, 1, 1, 1, 1, 1, 1, 1, 1, 1, 1, 1, 1, 1, 1, 1, 1, 1, 1, 1, 1, 1, 1, 1, 1, 1, 1, 1, 1, 1, 1, 5, 5, 13]
def hfr (y : Nat) : Nat := match y / 40 with
  | 0 => hfrT0.getD (y % 40) 0
  | 1 => hfrT1.getD (y % 40) 0
  | 2 => hfrT2.getD (y % 40) 0
  | 3 => hfrT3.getD (y % 40) 0
  | 4 => hfrT4.getD (y % 40) 0
  | 5 => hfrT5.getD (y % 40) 0
  | 6 => hfrT6.getD (y % 40) 0
  | 7 => hfrT7.getD (y % 40) 0
  | _ => 0
def hloT0 : List Nat := [71, 110, 42, 41, 41, 71, 63, 20, 20, 63, 20, 90, 20, 63, 63, 20, 63, 86, 81, 20, 20, 20, 173, 153, 153, 112, 112, 112, 88, 131, 20, 65, 41, 41, 20, 115, 42, 66, 42, 134]
def hloT1 : List Nat := [20, 112, 63, 86, 80, 60, 20, 20, 60, 20, 20, 41, 42, 195, 20, 20, 20, 20, 20, 121, 121, 121, 121, 137, 120, 137, 159, 181, 159, 159, 137, 121, 181, 181, 181, 181, 20, 137, 158, 121]
def hloT2 : List Nat := [137, 120, 20, 121, 121, 121, 20, 131, 20, 20, 20, 20, 121, 121, 121, 120, 20, 120, 121, 121, 121, 120, 121, 120, 158, 158, 100, 20, 120, 120, 100, 100, 100, 100, 100, 100, 100, 100, 110, 138]
def hloT3 : List Nat := [20, 42, 115, 137, 159, 115, 138, 115, 42, 63, 20, 20, 20, 20, 43, 65, 20, 48, 76, 104, 132, 160, 20, 188, 209, 188, 210, 42, 131, 217, 217, 241, 143, 266, 266, 188, 266, 232, 266, 20]
def hloT4 : List Nat := [20, 20, 20, 20, 20, 20, 20, 20, 20, 20, 20, 20, 20, 20, 20, 20, 20, 20, 20, 20, 20, 20, 20, 20, 20, 20, 20, 20, 20, 20, 20, 20, 20, 20, 20, 20, 20, 20, 20, 20]
def hloT5 : List Nat := [20, 20, 20, 20, 20, 20, 20, 20, 20, 20, 20, 20, 20, 20, 20, 20, 20, 20, 20, 20, 20, 20, 20, 20, 20, 20, 20, 20, 20, 20, 20, 20, 20, 20, 20, 20, 20, 20, 20, 20]
def hloT6 : List Nat := [20, 20, 20, 20, 20, 20, 20, 20, 20, 20, 20, 20, 20, 20, 20, 20, 20, 20, 20, 20, 20, 20, 20, 20, 20, 20, 20, 20, 20, 20, 20, 20, 20, 20, 20, 20, 20, 20, 20, 20]
def hloT7 : List Nat := [20, 20, 20, 20, 20, 20, 20, 20, 20, 20, 20, 20, 20, 20, 20, 20, 20, 20, 20, 20, 20, 20, 20, 20, 20, 20, 20, 20, 20, 20, 20, 110, 110, 299]
def hlo (y : Nat) : Nat := match y / 40 with
  | 0 => hloT0.getD (y % 40) 0
  | 1 => hloT1.getD (y % 40) 0
  | 2 => hloT2.getD (y % 40) 0
  | 3 => hloT3.getD (y % 40) 0
  | 4 => hloT4.getD (y % 40) 0
  | 5 => hloT5.getD (y % 40) 0
  | 6 => hloT6.getD (y % 40) 0
  | 7 => hloT7.getD (y % 40) 0
  | _ => 0
def hrm (y : Nat) : Room := { frames := hfr y, cells := hmc y, slots := hms y, locals := hlo y }
def hhtT0 : List (List (Nat × Nat × Nat × Nat)) := [[], [], [], [], [], [], [], [], [], [], [], [], [], [], [], [], [], [], [], [], [], [], [], [], [], [], [], [], [], [], [], [], [], [], [], [], [], [], [], []]
def hhtT1 : List (List (Nat × Nat × Nat × Nat)) := [[], [], [], [], [], [], [], [], [], [], [], [], [], [], [], [], [], [], [], [], [], [], [], [], [], [], [], [], [], [], [], [], [], [], [], [], [], [], [], []]
def hhtT2 : List (List (Nat × Nat × Nat × Nat)) := [[], [], [], [], [], [], [], [], [], [], [], [], [], [], [], [], [], [], [], [], [], [], [], [], [], [], [], [], [], [], [], [], [], [], [], [], [], [], [], []]
def hhtT3 : List (List (Nat × Nat × Nat × Nat)) := [[], [], [], [], [], [], [], [], [], [], [], [], [], [], [], [], [], [], [], [], [], [], [], [], [], [], [], [], [], [], [], [(0, 21, 22, 145), (0, 21, 26, 147), (0, 21, 30, 149)], [], [], [], [], [], [], [], []]
def hhtT4 : List (List (Nat × Nat × Nat × Nat)) := [[], [], [], [], [], [], [], [], [], [], [], [], [], [], [], [], [], [], [], [], [], [], [], [], [], [], [], [], [], [], [], [], [], [], [], [], [], [], [], []]
def hhtT5 : List (List (Nat × Nat × Nat × Nat)) := [[], [], [], [], [], [], [], [], [], [], [], [], [], [], [], [], [], [], [], [], [], [], [], [], [], [], [], [], [], [], [], [], [], [], [], [], [], [], [], []]
def hhtT6 : List (List (Nat × Nat × Nat × Nat)) := [[], [], [], [], [], [], [], [], [], [], [], [], [], [], [], [], [], [], [], [], [], [], [], [], [], [], [], [], [], [], [], [], [], [], [], [], [], [], [], []]
def hhtT7 : List (List (Nat × Nat × Nat × Nat)) := [[], [], [], [], [], [], [], [], [], [], [], [], [], [], [], [], [], [], [], [], [], [], [], [], [], [], [], [], [], [], [], [], [], []]
def hht (y : Nat) : (List (Nat × Nat × Nat × Nat)) := match y / 40 with
  | 0 => hhtT0.getD (y % 40) []
  | 1 => hhtT1.getD (y % 40) []
  | 2 => hhtT2.getD (y % 40) []
  | 3 => hhtT3.getD (y % 40) []
  | 4 => hhtT4.getD (y % 40) []
  | 5 => hhtT5.getD (y % 40) []
  | 6 => hhtT6.getD (y % 40) []
  | 7 => hhtT7.getD (y % 40) []
  | _ => []
def gcls (i : Nat) : String := ([RX0, RX1, RX2, RX3, RX4, RX5, RX6, RX7, RX8, RL, "java/lang/Math", "java/util/Arrays", "java/lang/String", RX9, "java/lang/Integer"] : List String).getD i RL
def hclT0 : List Nat := [0, 0, 0, 0, 0, 0, 1, 1, 1, 1, 1, 1, 1, 1, 1, 1, 1, 1, 2, 2, 2, 3, 3, 3, 3, 3, 3, 3, 3, 3, 3, 3, 3, 3, 3, 4, 4, 4, 4, 4]
def hclT1 : List Nat := [5, 5, 5, 5, 6, 6, 6, 6, 6, 6, 6, 6, 7, 7, 7, 7, 1, 7, 7, 7, 7, 7, 7, 7, 7, 7, 7, 7, 7, 7, 7, 7, 7, 7, 7, 7, 1, 7, 7, 7]
def hclT2 : List Nat := [7, 7, 1, 7, 7, 7, 1, 7, 1, 1, 1, 1, 7, 7, 7, 7, 7, 7, 7, 7, 7, 7, 7, 7, 7, 7, 7, 7, 7, 7, 7, 7, 7, 7, 7, 7, 7, 7, 7, 7]
def hclT3 : List Nat := [7, 7, 7, 7, 7, 7, 7, 7, 7, 7, 1, 8, 13, 13, 13, 13, 13, 13, 13, 13, 13, 13, 13, 13, 13, 13, 13, 13, 9, 9, 9, 9, 9, 9, 9, 9, 9, 9, 9, 1]
def hclT4 : List Nat := [1, 1, 1, 1, 1, 1, 1, 1, 1, 1, 14, 14, 1, 1, 1, 1, 1, 1, 1, 1, 1, 1, 1, 1, 1, 1, 1, 1, 1, 1, 1, 1, 1, 1, 1, 1, 1, 1, 1, 1]
def hclT5 : List Nat := [1, 1, 1, 1, 1, 1, 1, 1, 1, 1, 1, 1, 1, 1, 1, 1, 1, 1, 1, 1, 1, 1, 1, 1, 1, 1, 1, 1, 1, 1, 1, 1, 1, 1, 1, 1, 1, 1, 1, 1]
def hclT6 : List Nat := [1, 1, 1, 1, 1, 1, 1, 1, 1, 1, 1, 1, 1, 1, 1, 1, 1, 1, 1, 1, 1, 1, 1, 1, 1, 1, 1, 1, 1, 1, 1, 1, 1, 1, 1, 1, 1, 1, 1, 1]
def hclT7 : List Nat := [1, 1, 1, 1, 1, 1, 1, 1, 1, 1, 1, 1, 1, 1, 1, 1, 1, 1, 1, 1, 1, 1, 1, 1, 10, 10, 10, 10, 10, 11, 11, 12, 12, 9]
def hcl (y : Nat) : Nat := match y / 40 with
  | 0 => hclT0.getD (y % 40) 9
  | 1 => hclT1.getD (y % 40) 9
  | 2 => hclT2.getD (y % 40) 9
  | 3 => hclT3.getD (y % 40) 9
  | 4 => hclT4.getD (y % 40) 9
  | 5 => hclT5.getD (y % 40) 9
  | 6 => hclT6.getD (y % 40) 9
  | 7 => hclT7.getD (y % 40) 9
  | _ => 9
def gMtT0 : List (List gE × gH × Nat × Nat × Bool) := [(cd_X0_find, [], 0, 0, true), (cd_X0_solve, [], 0, 0, true), (cd_X0_rowTimes, [], 0, 0, false), (cd_X0_isLarge, [], 0, 0, true), (cd_X0_greatestDivisor, [], 0, 0, false), (cd_X0_commonMultiple, [], 0, 0, false), (cd_X1_take, [], 0, 0, false), (cd_X1_height, [], 0, 0, false), (cd_X1_at, [], 0, 0, false), (cd_X1_put, [], 0, 0, false), (cd_X1_determinant, [], 0, 0, false), (cd_X1_eliminate, [], 0, 0, false), (cd_X1_pivotRow, [], 0, 0, false), (cd_X1_leadRow, [], 0, 0, false), (cd_X1_clearColumn, [], 0, 0, false), (cd_X1_inverseOf, [], 0, 0, false), (cd_X1_ofKernel, [], 0, 0, false), (cd_X1_displace, [], 0, 0, false), (cd_X2_remember, [], 7, 142, false), (cd_X2_takeLatest, [], 0, 0, false), (cd_X2_forget, [], 0, 0, false), (cd_X3_putWord, [], 0, 0, false), (cd_X3_parse, [], 0, 0, true), (cd_X3_readHead, [], 0, 0, true), (cd_X3_readLine, [], 0, 0, true), (cd_X3_readRange, [], 0, 0, true), (cd_X3_readRangeValue, [], 0, 0, true), (cd_X3_readPart, [], 0, 0, true), (cd_X3_reachNumber, [], 0, 0, true), (cd_X3_isWord, [], 0, 0, true), (cd_X3_fail, [], 0, 0, true), (cd_X3_advance, [], 0, 0, false), (cd_X3_runEnd, [], 0, 0, false), (cd_X3_readDecimals, [], 0, 0, false), (cd_X3_byteAt, [], 0, 0, false), (cd_X4_prepare, [], 0, 0, true), (cd_X4_ofInverse, [], 0, 0, false), (cd_X4_addDigit, [], 0, 0, false), (cd_X4_nextRest, [], 0, 0, false), (cd_X4_liftAndEnter, [], 0, 0, true)]
def gMtT1 : List (List gE × gH × Nat × Nat × Bool) := [(cd_X5_component, [], 0, 0, false), (cd_X5_find, [], 0, 0, false), (cd_X5_keep, [], 0, 0, false), (cd_X5_subtract, [], 0, 0, false), (cd_X6_clear, [], 0, 0, false), (cd_X6_become, [], 0, 0, false), (cd_X6_along, [], 0, 0, false), (cd_X6_putAlong, [], 0, 0, false), (cd_X6_beginRefinement, [], 0, 0, false), (cd_X6_digitLimit, [], 0, 0, false), (cd_X6_digitOf, [], 0, 0, false), (cd_X6_enter, [], 0, 0, false), (cd_X7_append, [], 0, 0, false), (cd_X7_load, [], 1, 6, false), (cd_X7_parseError, [], 0, 0, false), (cd_X7_errorPosition, [], 0, 0, false), (cd_X1_height, [], 0, 0, false), (cd_X7_size, [], 0, 0, false), (cd_X7_prime, [], 0, 0, false), (cd_X7_diagonal, [], 2, 12, false), (cd_X7_entry, [], 3, 18, false), (cd_X7_side, [], 2, 12, false), (cd_X7_probe, [], 2, 12, false), (cd_X7_minor, [], 2, 12, false), (cd_X7_rank, [], 1, 6, false), (cd_X7_isRegular, [], 1, 6, true), (cd_X7_steps, [], 1, 6, false), (cd_X7_stepEnd, [], 2, 12, false), (cd_X7_longestJump, [], 1, 6, false), (cd_X7_tail, [], 1, 6, false), (cd_X7_regularPrimes, [], 1, 6, false), (cd_X7_minorIf, [], 4, 24, false), (cd_X7_schur, [], 4, 24, false), (cd_X7_displacement, [], 4, 24, false), (cd_X7_generators, [], 2, 12, false), (cd_X7_generator, [], 4, 24, false), (cd_X1_height, [], 0, 0, false), (cd_X7_solution, [], 3, 18, false), (cd_X7_inverse, [], 4, 24, false), (cd_X7_kernel, [], 3, 18, false)]
def gMtT2 : List (List gE × gH × Nat × Nat × Bool) := [(cd_X7_isSolvable, [], 1, 6, true), (cd_X7_digits, [], 1, 6, false), (cd_X1_height, [], 0, 0, false), (cd_X7_digit, [], 3, 18, false), (cd_X7_residual, [], 2, 12, false), (cd_X7_value, [], 2, 12, false), (cd_X1_height, [], 0, 0, false), (cd_X7_numerator, [], 3, 18, false), (cd_X1_height, [], 0, 0, false), (cd_X1_height, [], 0, 0, false), (cd_X1_height, [], 0, 0, false), (cd_X1_height, [], 0, 0, false), (cd_X7_product, [], 2, 12, false), (cd_X7_circulant, [], 3, 18, false), (cd_X7_wrapped, [], 2, 12, false), (cd_X7_probeSolves, [], 1, 6, true), (cd_X7_entries, [], 0, 0, false), (cd_X7_accountOf, [], 2, 12, false), (cd_X7_setDiagonal, [], 10, 160, false), (cd_X7_setSide, [], 10, 160, false), (cd_X7_setProbe, [], 10, 160, false), (cd_X7_setPrime, [], 9, 154, false), (cd_X7_grow, [], 12, 172, false), (cd_X7_shrink, [], 9, 154, false), (cd_X7_lift, [], 10, 160, false), (cd_X7_refine, [], 10, 160, false), (cd_X7_undo, [], 1, 6, false), (cd_X7_undoable, [], 0, 0, false), (cd_X7_save, [], 9, 154, false), (cd_X7_restore, [], 2, 12, false), (cd_X7_requireSystem, [], 1, 6, false), (cd_X7_requireRow, [], 1, 6, false), (cd_X7_requireBehind, [], 1, 6, false), (cd_X7_requireWrappedRow, [], 1, 6, false), (cd_X7_requireDiagonal, [], 1, 6, false), (cd_X7_requireSize, [], 1, 6, false), (cd_X7_requireSlot, [], 1, 6, false), (cd_X7_requireWithin, [], 1, 6, false), (cd_X7_requireFraction, [], 1, 6, false), (cd_X7_requireLifter, [], 1, 6, false)]
def gMtT3 : List (List gE × gH × Nat × Nat × Bool) := [(cd_X7_isListed, [], 0, 0, true), (cd_X7_reduced, [], 0, 0, false), (cd_X7_leadingMinor, [], 0, 0, false), (cd_X7_findSteps, [], 0, 0, false), (cd_X7_startBehind, [], 1, 6, false), (cd_X7_complementBehind, [], 0, 0, false), (cd_X7_pairsBehind, [], 0, 0, false), (cd_X7_eliminateWithSides, [], 0, 0, false), (cd_X7_timesProbe, [], 0, 0, false), (cd_X7_aroundCircle, [], 0, 0, false), (cd_X1_height, [], 0, 0, false), (cd_X8_next, [], 0, 0, false), (cd_X9_at, [], 0, 0, false), (cd_X9_mod, [], 0, 0, false), (cd_X9_mod_, [], 0, 0, false), (cd_X9_undone, [], 0, 0, false), (cd_X9_det0, [], 0, 0, false), (cd_X9_det1, [], 0, 0, false), (cd_X9_det2, [], 0, 0, false), (cd_X9_det3, [], 0, 0, false), (cd_X9_det4, [], 0, 0, false), (cd_X9_det5, [], 0, 0, false), (cd_X9_first, [], 0, 0, false), (cd_X9_minor, [], 0, 0, false), (cd_X9_isRegular, [], 0, 0, true), (cd_X9_areFree, [], 0, 0, true), (cd_X9_rank, [], 0, 0, false), (cd_X9_product, [], 0, 0, false), (cd_L_feeds, [], 20, 100, true), (cd_L_tell, [], 21, 106, false), (cd_L_calls, [], 154, 1824, false), (cd_L_thrown, [(0, 21, 22, 0), (0, 21, 26, 1), (0, 21, 30, 2)], 154, 1824, false), (cd_L_isLike, [], 12, 72, true), (cd_L_act, [], 374, 4644, true), (cd_L_minors, [], 630, 7380, true), (cd_L_with, [], 0, 0, false), (cd_L_solutions, [], 815, 9420, true), (cd_L_kernel, [], 7, 42, true), (cd_L_products, [], 315, 3690, true), (cd_X1_height, [], 0, 0, false)]
def gMtT4 : List (List gE × gH × Nat × Nat × Bool) := [(cd_X1_height, [], 0, 0, false), (cd_X1_height, [], 0, 0, false), (cd_X1_height, [], 0, 0, false), (cd_X1_height, [], 0, 0, false), (cd_X1_height, [], 0, 0, false), (cd_X1_height, [], 0, 0, false), (cd_X1_height, [], 0, 0, false), (cd_X1_height, [], 0, 0, false), (cd_X1_height, [], 0, 0, false), (cd_X1_height, [], 0, 0, false), (cd_J6_bitCount_0f7a4, [], 0, 0, false), (cd_J6_numberOfTrailingZeros_0f7a4, [], 0, 0, false), (cd_X1_height, [], 0, 0, false), (cd_X1_height, [], 0, 0, false), (cd_X1_height, [], 0, 0, false), (cd_X1_height, [], 0, 0, false), (cd_X1_height, [], 0, 0, false), (cd_X1_height, [], 0, 0, false), (cd_X1_height, [], 0, 0, false), (cd_X1_height, [], 0, 0, false), (cd_X1_height, [], 0, 0, false), (cd_X1_height, [], 0, 0, false), (cd_X1_height, [], 0, 0, false), (cd_X1_height, [], 0, 0, false), (cd_X1_height, [], 0, 0, false), (cd_X1_height, [], 0, 0, false), (cd_X1_height, [], 0, 0, false), (cd_X1_height, [], 0, 0, false), (cd_X1_height, [], 0, 0, false), (cd_X1_height, [], 0, 0, false), (cd_X1_height, [], 0, 0, false), (cd_X1_height, [], 0, 0, false), (cd_X1_height, [], 0, 0, false), (cd_X1_height, [], 0, 0, false), (cd_X1_height, [], 0, 0, false), (cd_X1_height, [], 0, 0, false), (cd_X1_height, [], 0, 0, false), (cd_X1_height, [], 0, 0, false), (cd_X1_height, [], 0, 0, false), (cd_X1_height, [], 0, 0, false)]
def gMtT5 : List (List gE × gH × Nat × Nat × Bool) := [(cd_X1_height, [], 0, 0, false), (cd_X1_height, [], 0, 0, false), (cd_X1_height, [], 0, 0, false), (cd_X1_height, [], 0, 0, false), (cd_X1_height, [], 0, 0, false), (cd_X1_height, [], 0, 0, false), (cd_X1_height, [], 0, 0, false), (cd_X1_height, [], 0, 0, false), (cd_X1_height, [], 0, 0, false), (cd_X1_height, [], 0, 0, false), (cd_X1_height, [], 0, 0, false), (cd_X1_height, [], 0, 0, false), (cd_X1_height, [], 0, 0, false), (cd_X1_height, [], 0, 0, false), (cd_X1_height, [], 0, 0, false), (cd_X1_height, [], 0, 0, false), (cd_X1_height, [], 0, 0, false), (cd_X1_height, [], 0, 0, false), (cd_X1_height, [], 0, 0, false), (cd_X1_height, [], 0, 0, false), (cd_X1_height, [], 0, 0, false), (cd_X1_height, [], 0, 0, false), (cd_X1_height, [], 0, 0, false), (cd_X1_height, [], 0, 0, false), (cd_X1_height, [], 0, 0, false), (cd_X1_height, [], 0, 0, false), (cd_X1_height, [], 0, 0, false), (cd_X1_height, [], 0, 0, false), (cd_X1_height, [], 0, 0, false), (cd_X1_height, [], 0, 0, false), (cd_X1_height, [], 0, 0, false), (cd_X1_height, [], 0, 0, false), (cd_X1_height, [], 0, 0, false), (cd_X1_height, [], 0, 0, false), (cd_X1_height, [], 0, 0, false), (cd_X1_height, [], 0, 0, false), (cd_X1_height, [], 0, 0, false), (cd_X1_height, [], 0, 0, false), (cd_X1_height, [], 0, 0, false), (cd_X1_height, [], 0, 0, false)]
def gMtT6 : List (List gE × gH × Nat × Nat × Bool) := [(cd_X1_height, [], 0, 0, false), (cd_X1_height, [], 0, 0, false), (cd_X1_height, [], 0, 0, false), (cd_X1_height, [], 0, 0, false), (cd_X1_height, [], 0, 0, false), (cd_X1_height, [], 0, 0, false), (cd_X1_height, [], 0, 0, false), (cd_X1_height, [], 0, 0, false), (cd_X1_height, [], 0, 0, false), (cd_X1_height, [], 0, 0, false), (cd_X1_height, [], 0, 0, false), (cd_X1_height, [], 0, 0, false), (cd_X1_height, [], 0, 0, false), (cd_X1_height, [], 0, 0, false), (cd_X1_height, [], 0, 0, false), (cd_X1_height, [], 0, 0, false), (cd_X1_height, [], 0, 0, false), (cd_X1_height, [], 0, 0, false), (cd_X1_height, [], 0, 0, false), (cd_X1_height, [], 0, 0, false), (cd_X1_height, [], 0, 0, false), (cd_X1_height, [], 0, 0, false), (cd_X1_height, [], 0, 0, false), (cd_X1_height, [], 0, 0, false), (cd_X1_height, [], 0, 0, false), (cd_X1_height, [], 0, 0, false), (cd_X1_height, [], 0, 0, false), (cd_X1_height, [], 0, 0, false), (cd_X1_height, [], 0, 0, false), (cd_X1_height, [], 0, 0, false), (cd_X1_height, [], 0, 0, false), (cd_X1_height, [], 0, 0, false), (cd_X1_height, [], 0, 0, false), (cd_X1_height, [], 0, 0, false), (cd_X1_height, [], 0, 0, false), (cd_X1_height, [], 0, 0, false), (cd_X1_height, [], 0, 0, false), (cd_X1_height, [], 0, 0, false), (cd_X1_height, [], 0, 0, false), (cd_X1_height, [], 0, 0, false)]
def gMtT7 : List (List gE × gH × Nat × Nat × Bool) := [(cd_X1_height, [], 0, 0, false), (cd_X1_height, [], 0, 0, false), (cd_X1_height, [], 0, 0, false), (cd_X1_height, [], 0, 0, false), (cd_X1_height, [], 0, 0, false), (cd_X1_height, [], 0, 0, false), (cd_X1_height, [], 0, 0, false), (cd_X1_height, [], 0, 0, false), (cd_X1_height, [], 0, 0, false), (cd_X1_height, [], 0, 0, false), (cd_X1_height, [], 0, 0, false), (cd_X1_height, [], 0, 0, false), (cd_X1_height, [], 0, 0, false), (cd_X1_height, [], 0, 0, false), (cd_X1_height, [], 0, 0, false), (cd_X1_height, [], 0, 0, false), (cd_X1_height, [], 0, 0, false), (cd_X1_height, [], 0, 0, false), (cd_X1_height, [], 0, 0, false), (cd_X1_height, [], 0, 0, false), (cd_X1_height, [], 0, 0, false), (cd_X1_height, [], 0, 0, false), (cd_X1_height, [], 0, 0, false), (cd_X1_height, [], 0, 0, false), (cd_J9_floorMod_7cf53, [], 0, 0, false), (cd_J9_abs_0f7a4, [], 0, 0, false), (cd_J9_abs_067f4, [], 0, 0, false), (cd_J9_max_7cf53, [], 0, 0, false), (cd_J9_min_7cf53, [], 0, 0, false), (cd_J7_fill_d0a16, [], 0, 0, false), (cd_J7_fill_53178, [], 0, 0, false), ([], [], 0, 0, false), ([], [], 0, 0, false), (cd_L_law, [], 300000, 4000000, true)]
def gMt (y : Nat) : (List gE × gH × Nat × Nat × Bool) := match y / 40 with
  | 0 => gMtT0.getD (y % 40) ([], [], 0, 0, false)
  | 1 => gMtT1.getD (y % 40) ([], [], 0, 0, false)
  | 2 => gMtT2.getD (y % 40) ([], [], 0, 0, false)
  | 3 => gMtT3.getD (y % 40) ([], [], 0, 0, false)
  | 4 => gMtT4.getD (y % 40) ([], [], 0, 0, false)
  | 5 => gMtT5.getD (y % 40) ([], [], 0, 0, false)
  | 6 => gMtT6.getD (y % 40) ([], [], 0, 0, false)
  | 7 => gMtT7.getD (y % 40) ([], [], 0, 0, false)
  | _ => ([], [], 0, 0, false)
end
section
/-! ===== what the small machine's states say of the heap ===== -/
abbrev gEn : Type := Launch × va_G × (Nat → ClassId) × Nat × (gR → Nat) × Nat × (Nat → Int32) × List Int32 × List Nat
abbrev gl (E : gEn) : Launch := E.1
abbrev gD (E : gEn) : va_G := E.2.1
abbrev gca (E : gEn) : Nat → ClassId := E.2.2.1
abbrev gB0 (E : gEn) : Nat := E.2.2.2.1
abbrev gax (E : gEn) : gR → Nat := E.2.2.2.2.1
abbrev gL (E : gEn) : Nat := E.2.2.2.2.2.1
abbrev gXs (E : gEn) : Nat → Int32 := E.2.2.2.2.2.2.1
/-- the text that the law has made; the places that stay as they are -/
abbrev gTx (E : gEn) : List Int32 := E.2.2.2.2.2.2.2.1
abbrev gEx (E : gEn) : List Nat := E.2.2.2.2.2.2.2.2
def gA (E : gEn) : Nat → Prop := fun q => gB0 E ≤ q ∧ q ∉ gEx E
def gfval (ad : gR → Nat) (I : gI) (J : gJ) (k n j cd dn : Nat) : Value :=
  if cd = 1 then .long (J k n j) else if cd < 100 then .int (I k n 0 j) else .ref (ad (cd - 100, n + dn, 0))
def gfvals (ad : gR → Nat) (I : gI) (J : gJ) (k n : Nat) (fl : List (Nat × Nat)) : List Value := fl.mapIdx (fun j q => gfval ad I J k n j q.1 q.2)
def garrE (ca : Nat → ClassId) (ad : gR → Nat) (I : gI) (J : gJ) (B : gB) (r : gR) (t n rk : Nat) : va_E := match t with
  | 0 => .inl (ca 0, n, .inl (I r.1 r.2.1 r.2.2))
  | 1 => .inl (ca 1, n, .inr (.inl (J r.1 r.2.1)))
  | 2 => .inl (ca 2, n, .inl (I r.1 r.2.1 r.2.2))
  | 3 => .inl (ca 3, n, .inl (I r.1 r.2.1 r.2.2))
  | 4 => .inl (ca 4, n, .inr (.inr (.inr (.inl (fun j => (J r.1 r.2.1 j).toUInt64)))))
  | 5 => .inl (ca 5, n, .inr (.inr (.inr (.inr (fun j => some (ad (rk, r.2.1, j)))))))
  | _ => .inl (ca 6, n, .inr (.inr (.inr (.inr (fun j => if Nat.blt j n && B (rk + j + 17) then some (ad (6, rk + j, 0)) else none)))))
def genc (ca : Nat → ClassId) (ad : gR → Nat) (I : gI) (J : gJ) (B : gB) (r : gR) : va_E := match gobj r.1 with
  | some (ci, fl) => .inr (ci, gfvals ad I J r.1 r.2.1 fl)
  | none => match garr r.1 with
    | some (t, n, rk) => garrE ca ad I J B r t n rk
    | none => .inl (ca 0, 0, .inl (fun _ => 0))
def gws (E : gEn) (ad : gR → Nat) (I : gI) (J : gJ) (B : gB) : va_W := (gids B).map (fun r => (ad r, genc (gca E) ad I J B r))
/-- what stands late stands with what holds it -/
def gBok (B : gB) : Prop := ∀ n, 3 ≤ n → n ≤ 12 → B (n + 17) = true → B n = true
def gRep (E : gEn) (ad : gR → Nat) (I : gI) (J : gJ) (B : gB) (H : Heap) : Prop := va_P (gD E) vwCl (gws E ad I J B) H ∧ va_D (gA E) (gws E ad I J B) ∧ (∀ r : gR, r.1 ≤ 2 → ad r = gax E r) ∧ gBok B
def gtys (E : gEn) : List (ClassId × FieldType) := [(gca E 0, .int), (gca E 1, .long), (gca E 2, .boolean), (gca E 3, .byte), (gca E 4, .double), (gca E 5, .array .int), (gca E 6, .object "ToeplitzLab$State")]
def gVl (B : gB) (r : gR) : Prop := r = (0, 0, 0) ∨ (r.1 = 1 ∧ r.2.1 < 2 ∧ r.2.2 = 0) ∨ (r.1 = 2 ∧ r.2.1 < 7 ∧ r.2.2 = 0) ∨ r ∈ gids B
def gVv (B : gB) (v : gV) : Prop := match v with
  | .inl _ => True
  | .inr r => gVl B r
def gExt (ad0 : gR → Nat) (Bs : gB) (ad : gR → Nat) : Prop := ∀ r, gVl Bs r → ad r = ad0 r
def gLe (B B' : gB) : Prop := ∀ n, B n = true → B' n = true
/-- the words that ride along in every method's list -/
def gBig : List Cond := lw_tbl.filter goodWord
/-- the law's fields by the nest: the number in the pool, the field's -/
def gNfl : List (Nat × Nat) := [(154, 4), (162, 5), (164, 1), (168, 2), (170, 3), (268, 0)]
def gNsF : List Cond := gNfl.map (fun t => Cond.fieldLinkNest "ToeplitzLabLaw" t.1 (TX9 t.2).1 (TX9 t.2).2.1 (TX9 t.2).2.2.1 "ToeplitzLabLaw")
/-- words of the tables that are handed on by themselves -/
def gNst : List Cond := [.fieldLinkNest "ToeplitzLab$Pairs" 46 "ToeplitzLab$Grid" "modulus" "I" "ToeplitzLab", .methodLinkNest "ToeplitzLab$Grid" 41 yX7_reduced "ToeplitzLab", .methodLinkNest "ToeplitzLab$Lifter" 62 yX7_reduced "ToeplitzLab", .methodLinkNest "ToeplitzLab$Pairs" 50 yX7_reduced "ToeplitzLab", .methodLinkNest "ToeplitzLab$Input" 94 yX7_isListed "ToeplitzLab", .methodLinkNest "ToeplitzLab$History" 21 yX6_init "ToeplitzLab", .methodLinkNest "ToeplitzLab" 18 yX6_init "ToeplitzLab",
  .declares ⟨"java/lang/RuntimeException", "<init>", "(Ljava/lang/String;)V"⟩, .declares ⟨"java/lang/Exception", "<init>", "(Ljava/lang/String;)V"⟩, .declares ⟨"java/lang/Throwable", "<init>", "(Ljava/lang/String;)V"⟩,
  .castable "java/lang/IllegalStateException" "java/lang/IllegalStateException", .castable "java/lang/IndexOutOfBoundsException" "java/lang/IndexOutOfBoundsException", .castable "java/lang/IllegalArgumentException" "java/lang/IllegalArgumentException"] ++ gNsF
/-- the texts: where they stand in the pools -/
def gTxt : List (String × Nat × String) := [("ToeplitzLab", 83, "there are not so many bytes"), ("ToeplitzLab", 94, "the text has an error"), ("ToeplitzLab", 323, "there is no system"), ("ToeplitzLab", 331, "there is no such diagonal"), ("ToeplitzLab", 325, "there is no such row or column"), ("ToeplitzLab", 333, "there is no such size"), ("ToeplitzLab", 344, "there is no such step"), ("ToeplitzLab", 337, "a number is out of its range"), ("ToeplitzLab", 327, "there is no such row or column behind the step"), ("ToeplitzLab", 192, "there is no such pair"), ("ToeplitzLab", 201, "the matrix is not regular"), ("ToeplitzLab", 209, "the matrix is regular"), ("ToeplitzLab", 220, "there is no such digit"), ("ToeplitzLab", 339, "there is no fraction"), ("ToeplitzLab", 329, "there is no such row or column of the circulant"), ("ToeplitzLab", 273, "there is no such entry"), ("ToeplitzLab", 275, "there is no such property"), ("ToeplitzLab", 289, "this is none of the primes"), ("ToeplitzLab", 291, "the system has its greatest size"), ("ToeplitzLab", 293, "the system has its smallest size"), ("ToeplitzLab", 295, "there is no room for a digit"), ("ToeplitzLab", 301, "the number of lifts is out of its range"), ("ToeplitzLab", 312, "there is nothing to undo"), ("ToeplitzLab", 335, "there is no such slot"), ("ToeplitzLab", 321, "nothing is saved there")]
/-- the words that are looked for: where they stand in the pools, and their numbers -/
def gTx2 : List (String × Nat × String × Nat) := [("ToeplitzLab$Input", 76, "toeplitz", 0), ("ToeplitzLab$Input", 92, "prime", 1), ("ToeplitzLab$Input", 100, "diagonal", 2), ("ToeplitzLab$Input", 109, "band", 3), ("ToeplitzLab$Input", 111, "side", 4), ("ToeplitzLab$Input", 121, "probe", 5)]
def gTl : List Nat := [8, 5, 8, 4, 4, 5]
def gTb : List (List Int32) := [[116, 111, 101, 112, 108, 105, 116, 122], [112, 114, 105, 109, 101], [100, 105, 97, 103, 111, 110, 97, 108], [98, 97, 110, 100], [115, 105, 100, 101], [112, 114, 111, 98, 101]]
def gxn (k : Nat) : String := match k with
  | 0 => "java/lang/IllegalStateException"
  | 1 => "java/lang/IndexOutOfBoundsException"
  | _ => "java/lang/IllegalArgumentException"
/-- what is known of the tables and of what stood before -/
def gEv (E : gEn) (U : State) (H : Heap) : Prop :=
  va_K (gD E) vwCl (gtys E) U ∧ (∀ w ∈ gNst, va_Nw w U) ∧
  vx_Zq Bundle.tN "UNASSIGNED_STACK" Bundle.steD (gA E) U H ∧ vx_Zq Bundle.tN "SUPPRESSED_SENTINEL" Bundle.listD (gA E) U H ∧
  va_Z "ToeplitzLab" "PRIMES" "[I" (.ref (gax E (1, 0, 0))) (gA E) U H ∧ va_T .int (gax E (1, 0, 0)) 11 (fun j => .int (gprime j)) (gA E) U H ∧
  va_Z "ToeplitzLabLaw" "PRIMES" "[I" (.ref (gax E (1, 1, 0))) (gA E) U H ∧ va_T .int (gax E (1, 1, 0)) 11 (fun j => .int (gprime j)) (gA E) U H ∧
  va_X (gax E (0, 0, 0)) (gL E) (gXs E) U H ∧ (¬ gA E (gax E (0, 0, 0)) ∧ gax E (0, 0, 0) < H.size) ∧
  (∀ q ∈ gTxt, ∃ a, vk_R q.1 q.2.1 q.2.2 a U) ∧ (∀ q ∈ gTx2, vk_R q.1 q.2.1 q.2.2.1 (gax E (2, q.2.2.2, 0)) U) ∧
  vk_S 7 (gTl ++ [(gTx E).length]) (gTb ++ [gTx E]) (fun k => gax E (2, k, 0)) (fun k => gax E (2, k, 1)) (gA E) U H ∧ va_Z "java/lang/String" "COMPACT_STRINGS" "Z" (.int 1) (gA E) U H ∧
  va_Zq "jdk/internal/util/Preconditions" "SIOOBE_FORMATTER" "Ljava/util/function/BiFunction;" (gA E) U H ∧
  (∀ k k2 : Nat, k < 3 → k2 < 3 → k ≠ k2 → va_Nc (gxn k) (gxn k2) U) ∧
  (gl E).stackTraces = false ∧ gB0 E ≤ H.size ∧ (∀ q ∈ gEx E, q < H.size)
def gout (y : Nat) (ad : gR → Nat) (v : gV) : Option Value := match hr y with
  | none => none
  | some _ => some (gcv ad v)
def gQc (E : gEn) (y : Nat) (ad0 : gR → Nat) (Bs : gB) (Q : gQt) : Array Value → State → Outcome → State → Prop := fun _ st o t =>
  (∃ (v : gV) (I : gI) (J : gJ) (B : gB) (ad : gR → Nat), o = .returned (gout y ad v) ∧ Q v I J B ∧ gRep E ad I J B t.heap ∧ gExt ad0 Bs ad ∧ gLe Bs B ∧ gVv B v) ∧ va_F (gA E) st t
def gXc (E : gEn) (ad0 : gR → Nat) (Bs : gB) (X : gXt) : String → State → State → Prop := fun En st t =>
  (∃ (k : Nat) (I : gI) (J : gJ) (B : gB) (ad : gR → Nat), (k < 3 ∧ gxn k = En) ∧ X k I J B ∧ gRep E ad I J B t.heap ∧ gExt ad0 Bs ad ∧ gLe Bs B) ∧ va_F (gA E) st t
def hcw (y : Nat) : Cond := match hht y with
  | [] => Cond.code (hy y) (hb y) (hml y) (hr y)
  | hh => Cond.codeWith (hy y) (hb y) (hml y) (hr y) hh
def hws (y : Nat) : List Cond := hcw y :: gBig
/-- a method's contract: called with args over I, J, B it ends with Q, or throws with X -/
def gCm (E : gEn) (y : Nat) (ws : List Cond) (args : List gV) (I : gI) (J : gJ) (B : gB) (Q : gQt) (X : gXt) : Prop :=
  (∀ v ∈ args, gVv B v) → ∀ ad : gR → Nat, vx_Met (gl E) (hy y) ws (hrm y) (va_Pc (args.map (gcv ad)) (fun U => gEv E U U.heap ∧ gRep E ad I J B U.heap)) (gQc E y ad B Q) (gXc E ad B X) (hmc y) (hms y) (gA E)
abbrev gC (E : gEn) (y : Nat) (args : List gV) (I : gI) (J : gJ) (B : gB) (Q : gQt) (X : gXt) : Prop := gCm E y (hws y) args I J B Q X
def gCx (E : gEn) (y : Nat) (p : Program) (e : Env) (s : State) (m : MethodId) (args : Array Value) (below : List Frame) (meth : Method) (cc : Code) : Prop :=
  p.tables.exec = Jvm.exec ∧ cc.code = hb y ∧ meth.sig.returnType = hr y ∧ cc.maxLocals = hml y ∧ s.vm.findClass (hy y).cls = some m.cls ∧ (∀ w ∈ gBig, w.before args s = true) ∧ meth.locks = false ∧ gEv E s s.heap
def gSt (E : gEn) (y : Nat) (ad0 : gR → Nat) (Bs : gB) (s : State) (H : Heap) (locs : List Loc) (LS : Array Slot) (ad : gR → Nat) (ls : List (Nat × gV)) (st : List gV) (I : gI) (J : gJ) (B : gB) : Prop :=
  gRep E ad I J B H ∧ va_S (gA E) s.heap H locs ∧ lv_has LS (hml y) (ls.map (gcp ad)) ∧ gExt ad0 Bs ad ∧ gLe Bs B ∧ (∀ q ∈ ls, gVv B q.2) ∧ (∀ v ∈ st, gVv B v)
/-- from here on the method comes to its end -/
def gG (E : gEn) (y pc : Nat) (ls : List (Nat × gV)) (st : List gV) (I : gI) (J : gJ) (B : gB) (c w : Nat) (Q : gQt) (X : gXt) : Prop :=
  c ≤ hmc y → w ≤ hms y → ∀ (p : Program) (e : Env) (s : State) (m : MethodId) (args : Array Value) (below : List Frame) (meth : Method) (cc : Code) (ad0 : gR → Nat) (Bs : gB), gCx E y p e s m args below meth cc → cc.exceptionTable.toList = tableOf (hht y) →
    ∀ (H : Heap) (locs : List Loc) (LS : Array Slot) (ad : gR → Nat), gSt E y ad0 Bs s H locs LS ad ls st I J B →
      W p (gl E) e (hrm y) s m args below meth cc H locs c w (vx_MQ below (gQc E y ad0 Bs Q) (gXc E ad0 Bs X) args s (hmc y) (hms y) (gA E)) (F0 m pc LS (st.map (gcv ad)))
end
section
theorem gNst_warm {w : Cond} (hw : w ∈ gNst) {s U : State} (hW : s.WarmedH U.vm) (h : va_Nw w s) : va_Nw w U := by
  rcases List.mem_append.mp hw with hw | hw
  rotate_left
  · obtain ⟨t, -, rfl⟩ := List.mem_map.mp hw
    exact va_Nw.warmF hW h
  simp only [List.mem_cons, List.not_mem_nil, or_false] at hw
  rcases hw with rfl | rfl | rfl | rfl | rfl | rfl | rfl | rfl | rfl | rfl | rfl | rfl | rfl
  · exact va_Nw.warmF hW h
  · exact va_Nw.warmM hW h
  · exact va_Nw.warmM hW h
  · exact va_Nw.warmM hW h
  · exact va_Nw.warmM hW h
  · exact va_Nw.warmM hW h
  · exact va_Nw.warmM hW h
  · exact va_Nw.warmD hW h
  · exact va_Nw.warmD hW h
  · exact va_Nw.warmD hW h
  · exact va_Nw.warmC hW h
  · exact va_Nw.warmC hW h
  · exact va_Nw.warmC hW h
/-- what is known goes on -/
theorem gEv.to {E : gEn} {s U : State} {H H1 : Heap} (hW : s.WarmedH U.vm) (h : gEv E s H) (hz : H.size ≤ H1.size) (hq : ∀ a : Nat, a < H.size → ¬ gA E a → H1[a]? = H[a]?) : gEv E U H1 := by
  obtain ⟨h1, h2, h3, h4, h5, h6, h5b, h6b, h7, ⟨h8, h9⟩, h10, h11, h12, h13, h14, h17, h15, h16, h18⟩ := h
  have hv := hW.alike
  exact ⟨h1.moved hv, fun w hw => gNst_warm hw hW (h2 w hw), (h3.moved hv).kept hq, (h4.moved hv).kept hq, (h5.moved hv).kept hq, (h6.moved hv).kept hq, (h5b.moved hv).kept hq, (h6b.moved hv).kept hq,
    (h7.moved hv).kept (hq _ h9 h8), ⟨h8, Nat.lt_of_lt_of_le h9 hz⟩, fun q hq => (h10 q hq).imp fun a ha => ha.warm hW, fun q hq => (h11 q hq).warm hW,
    (h12.moved hv).kept hq, (h13.moved hv).kept hq, (h14.moved hv).kept hq, fun k k2 hk hk2 hn => (h17 k k2 hk hk2 hn).moved hv, h15, Nat.le_trans h16 hz, fun q hq => Nat.lt_of_lt_of_le (h18 q hq) hz⟩
section GP
variable {E : gEn} {y pc : Nat} {ls : List (Nat × gV)} {st r : List gV} {I : gI} {J : gJ} {B : gB} {c w : Nat} {Q : gQt} {X : gXt}
theorem gSt.tk {ad0 : gR → Nat} {Bs : gB} {s : State} {H : Heap} {locs : List Loc} {LS : Array Slot} {ad : gR → Nat} {st2 : List gV} (h : gSt E y ad0 Bs s H locs LS ad ls st I J B) (hv : ∀ v ∈ st2, gVv B v) : gSt E y ad0 Bs s H locs LS ad ls st2 I J B := ⟨h.1, h.2.1, h.2.2.1, h.2.2.2.1, h.2.2.2.2.1, h.2.2.2.2.2.1, hv⟩
theorem gSt.vs {ad0 : gR → Nat} {Bs : gB} {s : State} {H : Heap} {locs : List Loc} {LS : Array Slot} {ad : gR → Nat} (h : gSt E y ad0 Bs s H locs LS ad ls st I J B) : ∀ v ∈ st, gVv B v := h.2.2.2.2.2.2
theorem gvs_n {z : Value} (h : ∀ v ∈ r, gVv B v) : ∀ v ∈ (.inl z :: r : List gV), gVv B v := List.forall_mem_cons.mpr ⟨trivial, h⟩
theorem gvs_d {z : gV} (h : ∀ v ∈ (z :: r), gVv B v) : ∀ v ∈ r, gVv B v := (List.forall_mem_cons.mp h).2
theorem gvs_h {z : gV} (h : ∀ v ∈ (z :: r), gVv B v) : gVv B z := (List.forall_mem_cons.mp h).1
theorem gvs_c {z : gV} (h0 : gVv B z) (h : ∀ v ∈ r, gVv B v) : ∀ v ∈ (z :: r), gVv B v := List.forall_mem_cons.mpr ⟨h0, h⟩
theorem gp_iadd {x : Int32} {z : Int32} (hd : decode (hb y) pc = .ok (.iadd, 1)) (k : gG E y (pc + 1) ls (.inl (.int (x + z)) :: r) I J B c w Q X) : gG E y pc ls (.inl (.int z) :: .inl (.int x) :: r) I J B c w Q X := by
  intro hc hw p e s m args below meth cc ad0 Bs hC hT H locs LS ad hS
  exact lv_iadd hC.1 hC.2.1 hd (k hc hw p e s m args below meth cc ad0 Bs hC hT H locs LS ad (hS.tk (gvs_n (gvs_d (gvs_d (hS.vs))))))
theorem gp_isub {x : Int32} {z : Int32} (hd : decode (hb y) pc = .ok (.isub, 1)) (k : gG E y (pc + 1) ls (.inl (.int (x - z)) :: r) I J B c w Q X) : gG E y pc ls (.inl (.int z) :: .inl (.int x) :: r) I J B c w Q X := by
  intro hc hw p e s m args below meth cc ad0 Bs hC hT H locs LS ad hS
  exact lv_isub hC.1 hC.2.1 hd (k hc hw p e s m args below meth cc ad0 Bs hC hT H locs LS ad (hS.tk (gvs_n (gvs_d (gvs_d (hS.vs))))))
theorem gp_imul {x : Int32} {z : Int32} (hd : decode (hb y) pc = .ok (.imul, 1)) (k : gG E y (pc + 1) ls (.inl (.int (x * z)) :: r) I J B c w Q X) : gG E y pc ls (.inl (.int z) :: .inl (.int x) :: r) I J B c w Q X := by
  intro hc hw p e s m args below meth cc ad0 Bs hC hT H locs LS ad hS
  exact lv_imul hC.1 hC.2.1 hd (k hc hw p e s m args below meth cc ad0 Bs hC hT H locs LS ad (hS.tk (gvs_n (gvs_d (gvs_d (hS.vs))))))
theorem gp_iand {x : Int32} {z : Int32} (hd : decode (hb y) pc = .ok (.iand, 1)) (k : gG E y (pc + 1) ls (.inl (.int (x &&& z)) :: r) I J B c w Q X) : gG E y pc ls (.inl (.int z) :: .inl (.int x) :: r) I J B c w Q X := by
  intro hc hw p e s m args below meth cc ad0 Bs hC hT H locs LS ad hS
  exact lv_iand hC.1 hC.2.1 hd (k hc hw p e s m args below meth cc ad0 Bs hC hT H locs LS ad (hS.tk (gvs_n (gvs_d (gvs_d (hS.vs))))))
theorem gp_ior {x : Int32} {z : Int32} (hd : decode (hb y) pc = .ok (.ior, 1)) (k : gG E y (pc + 1) ls (.inl (.int (x ||| z)) :: r) I J B c w Q X) : gG E y pc ls (.inl (.int z) :: .inl (.int x) :: r) I J B c w Q X := by
  intro hc hw p e s m args below meth cc ad0 Bs hC hT H locs LS ad hS
  exact lv_ior hC.1 hC.2.1 hd (k hc hw p e s m args below meth cc ad0 Bs hC hT H locs LS ad (hS.tk (gvs_n (gvs_d (gvs_d (hS.vs))))))
theorem gp_ixor {x : Int32} {z : Int32} (hd : decode (hb y) pc = .ok (.ixor, 1)) (k : gG E y (pc + 1) ls (.inl (.int (x ^^^ z)) :: r) I J B c w Q X) : gG E y pc ls (.inl (.int z) :: .inl (.int x) :: r) I J B c w Q X := by
  intro hc hw p e s m args below meth cc ad0 Bs hC hT H locs LS ad hS
  exact lv_ixor hC.1 hC.2.1 hd (k hc hw p e s m args below meth cc ad0 Bs hC hT H locs LS ad (hS.tk (gvs_n (gvs_d (gvs_d (hS.vs))))))
theorem gp_ishl {x : Int32} {z : Int32} (hd : decode (hb y) pc = .ok (.ishl, 1)) (k : gG E y (pc + 1) ls (.inl (.int (x <<< (z &&& 31))) :: r) I J B c w Q X) : gG E y pc ls (.inl (.int z) :: .inl (.int x) :: r) I J B c w Q X := by
  intro hc hw p e s m args below meth cc ad0 Bs hC hT H locs LS ad hS
  exact lv_ishl hC.1 hC.2.1 hd (k hc hw p e s m args below meth cc ad0 Bs hC hT H locs LS ad (hS.tk (gvs_n (gvs_d (gvs_d (hS.vs))))))
theorem gp_ishr {x : Int32} {z : Int32} (hd : decode (hb y) pc = .ok (.ishr, 1)) (k : gG E y (pc + 1) ls (.inl (.int (x >>> (z &&& 31))) :: r) I J B c w Q X) : gG E y pc ls (.inl (.int z) :: .inl (.int x) :: r) I J B c w Q X := by
  intro hc hw p e s m args below meth cc ad0 Bs hC hT H locs LS ad hS
  exact lv_ishr hC.1 hC.2.1 hd (k hc hw p e s m args below meth cc ad0 Bs hC hT H locs LS ad (hS.tk (gvs_n (gvs_d (gvs_d (hS.vs))))))
theorem gp_iushr {x : Int32} {z : Int32} (hd : decode (hb y) pc = .ok (.iushr, 1)) (k : gG E y (pc + 1) ls (.inl (.int ((x.toUInt32 >>> (z.toUInt32 &&& Int32.toUInt32 31)).toInt32)) :: r) I J B c w Q X) : gG E y pc ls (.inl (.int z) :: .inl (.int x) :: r) I J B c w Q X := by
  intro hc hw p e s m args below meth cc ad0 Bs hC hT H locs LS ad hS
  exact lv_iushr hC.1 hC.2.1 hd rfl (k hc hw p e s m args below meth cc ad0 Bs hC hT H locs LS ad (hS.tk (gvs_n (gvs_d (gvs_d hS.vs)))))
theorem gp_ldcw {n : Nat} {x : Int32} (hd : decode (hb y) pc = .ok (.ldc_w n, 3)) (h0 : Cond.constant (hy y).cls n x ∈ gBig) (k : gG E y (pc + 3) ls (.inl (.int x) :: r) I J B c w Q X) : gG E y pc ls r I J B c w Q X := by
  intro hc hw p e s m args below meth cc ad0 Bs hC hT H locs LS ad hS
  exact lv_ldcw hC.1 hC.2.1 hC.2.2.2.2.1 (hC.2.2.2.2.2.1 _ h0) hd (k hc hw p e s m args below meth cc ad0 Bs hC hT H locs LS ad (hS.tk (gvs_n hS.vs)))
theorem gp_ldcI {n : Nat} {x : Int32} (hd : decode (hb y) pc = .ok (.ldc n, 2)) (h0 : Cond.constant (hy y).cls n x ∈ gBig) (k : gG E y (pc + 2) ls (.inl (.int x) :: r) I J B c w Q X) : gG E y pc ls r I J B c w Q X := by
  intro hc hw p e s m args below meth cc ad0 Bs hC hT H locs LS ad hS
  exact lv_ldc hC.1 hC.2.1 hC.2.2.2.2.1 (hC.2.2.2.2.2.1 _ h0) hd (k hc hw p e s m args below meth cc ad0 Bs hC hT H locs LS ad (hS.tk (gvs_n hS.vs)))
theorem gp_idiv {x : Int32} {z : Int32} (hd : decode (hb y) pc = .ok (.idiv, 1)) (h0 : ¬ z = 0) (k : gG E y (pc + 1) ls (.inl (.int (x / z)) :: r) I J B c w Q X) : gG E y pc ls (.inl (.int z) :: .inl (.int x) :: r) I J B c w Q X := by
  intro hc hw p e s m args below meth cc ad0 Bs hC hT H locs LS ad hS
  exact lv_idiv hC.1 hC.2.1 hd h0 (k hc hw p e s m args below meth cc ad0 Bs hC hT H locs LS ad (hS.tk (gvs_n (gvs_d (gvs_d (hS.vs))))))
theorem gp_irem {x : Int32} {z : Int32} (hd : decode (hb y) pc = .ok (.irem, 1)) (h0 : ¬ z = 0) (k : gG E y (pc + 1) ls (.inl (.int (x - x / z * z)) :: r) I J B c w Q X) : gG E y pc ls (.inl (.int z) :: .inl (.int x) :: r) I J B c w Q X := by
  intro hc hw p e s m args below meth cc ad0 Bs hC hT H locs LS ad hS
  exact lv_irem hC.1 hC.2.1 hd h0 (k hc hw p e s m args below meth cc ad0 Bs hC hT H locs LS ad (hS.tk (gvs_n (gvs_d (gvs_d (hS.vs))))))
theorem gp_ladd {x : Int64} {z : Int64} (hd : decode (hb y) pc = .ok (.ladd, 1)) (k : gG E y (pc + 1) ls (.inl (.long (x + z)) :: r) I J B c w Q X) : gG E y pc ls (.inl (.long z) :: .inl (.long x) :: r) I J B c w Q X := by
  intro hc hw p e s m args below meth cc ad0 Bs hC hT H locs LS ad hS
  exact lv_ladd hC.1 hC.2.1 hd (k hc hw p e s m args below meth cc ad0 Bs hC hT H locs LS ad (hS.tk (gvs_n (gvs_d (gvs_d (hS.vs))))))
theorem gp_lsub {x : Int64} {z : Int64} (hd : decode (hb y) pc = .ok (.lsub, 1)) (k : gG E y (pc + 1) ls (.inl (.long (x - z)) :: r) I J B c w Q X) : gG E y pc ls (.inl (.long z) :: .inl (.long x) :: r) I J B c w Q X := by
  intro hc hw p e s m args below meth cc ad0 Bs hC hT H locs LS ad hS
  exact lv_lsub hC.1 hC.2.1 hd (k hc hw p e s m args below meth cc ad0 Bs hC hT H locs LS ad (hS.tk (gvs_n (gvs_d (gvs_d (hS.vs))))))
theorem gp_lmul {x : Int64} {z : Int64} (hd : decode (hb y) pc = .ok (.lmul, 1)) (k : gG E y (pc + 1) ls (.inl (.long (x * z)) :: r) I J B c w Q X) : gG E y pc ls (.inl (.long z) :: .inl (.long x) :: r) I J B c w Q X := by
  intro hc hw p e s m args below meth cc ad0 Bs hC hT H locs LS ad hS
  exact lv_lmul hC.1 hC.2.1 hd (k hc hw p e s m args below meth cc ad0 Bs hC hT H locs LS ad (hS.tk (gvs_n (gvs_d (gvs_d (hS.vs))))))
theorem gp_ldiv {x : Int64} {z : Int64} (hd : decode (hb y) pc = .ok (.ldiv, 1)) (h0 : ¬ z = 0) (k : gG E y (pc + 1) ls (.inl (.long (x / z)) :: r) I J B c w Q X) : gG E y pc ls (.inl (.long z) :: .inl (.long x) :: r) I J B c w Q X := by
  intro hc hw p e s m args below meth cc ad0 Bs hC hT H locs LS ad hS
  exact lv_ldiv hC.1 hC.2.1 hd h0 (k hc hw p e s m args below meth cc ad0 Bs hC hT H locs LS ad (hS.tk (gvs_n (gvs_d (gvs_d (hS.vs))))))
theorem gp_lrem {x : Int64} {z : Int64} (hd : decode (hb y) pc = .ok (.lrem, 1)) (h0 : ¬ z = 0) (k : gG E y (pc + 1) ls (.inl (.long (x - x / z * z)) :: r) I J B c w Q X) : gG E y pc ls (.inl (.long z) :: .inl (.long x) :: r) I J B c w Q X := by
  intro hc hw p e s m args below meth cc ad0 Bs hC hT H locs LS ad hS
  exact lv_lrem hC.1 hC.2.1 hd h0 (k hc hw p e s m args below meth cc ad0 Bs hC hT H locs LS ad (hS.tk (gvs_n (gvs_d (gvs_d (hS.vs))))))
theorem gp_ineg {x : Int32} (hd : decode (hb y) pc = .ok (.ineg, 1)) (k : gG E y (pc + 1) ls (.inl (.int (-x)) :: r) I J B c w Q X) : gG E y pc ls (.inl (.int x) :: r) I J B c w Q X := by
  intro hc hw p e s m args below meth cc ad0 Bs hC hT H locs LS ad hS
  exact lv_ineg hC.1 hC.2.1 hd (k hc hw p e s m args below meth cc ad0 Bs hC hT H locs LS ad (hS.tk (gvs_n (gvs_d (hS.vs)))))
theorem gp_lneg {x : Int64} (hd : decode (hb y) pc = .ok (.lneg, 1)) (k : gG E y (pc + 1) ls (.inl (.long (-x)) :: r) I J B c w Q X) : gG E y pc ls (.inl (.long x) :: r) I J B c w Q X := by
  intro hc hw p e s m args below meth cc ad0 Bs hC hT H locs LS ad hS
  exact lv_lneg hC.1 hC.2.1 hd (k hc hw p e s m args below meth cc ad0 Bs hC hT H locs LS ad (hS.tk (gvs_n (gvs_d (hS.vs)))))
theorem gp_lcmp {x : Int64} {z : Int64} (hd : decode (hb y) pc = .ok (.lcmp, 1)) (k : gG E y (pc + 1) ls (.inl (.int (lg_cmp x z)) :: r) I J B c w Q X) : gG E y pc ls (.inl (.long z) :: .inl (.long x) :: r) I J B c w Q X := by
  intro hc hw p e s m args below meth cc ad0 Bs hC hT H locs LS ad hS
  exact W.lcmp hC.1 hC.2.1 hd (k hc hw p e s m args below meth cc ad0 Bs hC hT H locs LS ad (hS.tk (gvs_n (gvs_d (gvs_d (hS.vs))))))
theorem gp_i2l {x : Int32} (hd : decode (hb y) pc = .ok (.i2l, 1)) (k : gG E y (pc + 1) ls (.inl (.long (x.toInt64)) :: r) I J B c w Q X) : gG E y pc ls (.inl (.int x) :: r) I J B c w Q X := by
  intro hc hw p e s m args below meth cc ad0 Bs hC hT H locs LS ad hS
  exact lv_i2l hC.1 hC.2.1 hd rfl (k hc hw p e s m args below meth cc ad0 Bs hC hT H locs LS ad (hS.tk (gvs_n (gvs_d (hS.vs)))))
theorem gp_l2i {x : Int64} (hd : decode (hb y) pc = .ok (.l2i, 1)) (k : gG E y (pc + 1) ls (.inl (.int (x.toInt32)) :: r) I J B c w Q X) : gG E y pc ls (.inl (.long x) :: r) I J B c w Q X := by
  intro hc hw p e s m args below meth cc ad0 Bs hC hT H locs LS ad hS
  exact lv_l2i hC.1 hC.2.1 hd rfl (k hc hw p e s m args below meth cc ad0 Bs hC hT H locs LS ad (hS.tk (gvs_n (gvs_d (hS.vs)))))
theorem gp_i2b {x : Int32} (hd : decode (hb y) pc = .ok (.i2b, 1)) (k : gG E y (pc + 1) ls (.inl (.int (x.toInt8.toInt32)) :: r) I J B c w Q X) : gG E y pc ls (.inl (.int x) :: r) I J B c w Q X := by
  intro hc hw p e s m args below meth cc ad0 Bs hC hT H locs LS ad hS
  exact lv_i2b hC.1 hC.2.1 hd rfl (k hc hw p e s m args below meth cc ad0 Bs hC hT H locs LS ad (hS.tk (gvs_n (gvs_d (hS.vs)))))
theorem gp_l2d {x : Int64} (hd : decode (hb y) pc = .ok (.l2d, 1)) (k : gG E y (pc + 1) ls (.inl (.double (FP.l2d x)) :: r) I J B c w Q X) : gG E y pc ls (.inl (.long x) :: r) I J B c w Q X := by
  intro hc hw p e s m args below meth cc ad0 Bs hC hT H locs LS ad hS
  exact lv_l2d hC.1 hC.2.1 hd (k hc hw p e s m args below meth cc ad0 Bs hC hT H locs LS ad (hS.tk (gvs_n (gvs_d (hS.vs)))))
theorem gp_ddiv {x : UInt64} {z : UInt64} (hd : decode (hb y) pc = .ok (.ddiv, 1)) (h0 : vf_n64 (FP.ddiv x z)) (k : gG E y (pc + 1) ls (.inl (.double (FP.ddiv x z)) :: r) I J B c w Q X) : gG E y pc ls (.inl (.double z) :: .inl (.double x) :: r) I J B c w Q X := by
  intro hc hw p e s m args below meth cc ad0 Bs hC hT H locs LS ad hS
  exact lv_ddiv hC.1 hC.2.1 hd h0 (k hc hw p e s m args below meth cc ad0 Bs hC hT H locs LS ad (hS.tk (gvs_n (gvs_d (gvs_d (hS.vs))))))
theorem gp_dcmp {x : UInt64} {z : UInt64} {o : CmpOp} (hd : decode (hb y) pc = .ok (.dcmp o, 1)) (k : gG E y (pc + 1) ls (.inl (.int (Op.cmpValue (FP.dcmp x z) o)) :: r) I J B c w Q X) : gG E y pc ls (.inl (.double z) :: .inl (.double x) :: r) I J B c w Q X := by
  intro hc hw p e s m args below meth cc ad0 Bs hC hT H locs LS ad hS
  exact lv_dcmp hC.1 hC.2.1 hd (k hc hw p e s m args below meth cc ad0 Bs hC hT H locs LS ad (hS.tk (gvs_n (gvs_d (gvs_d (hS.vs))))))
theorem gp_iconst  {n : Int} {x : Int32} (hd : decode (hb y) pc = .ok (.iconst n, 1)) (h0 : Int32.ofInt n = x) (k : gG E y (pc + 1) ls (.inl (.int (x)) :: r) I J B c w Q X) : gG E y pc ls (r) I J B c w Q X := by
  intro hc hw p e s m args below meth cc ad0 Bs hC hT H locs LS ad hS
  exact lv_iconst hC.1 hC.2.1 hd h0 (k hc hw p e s m args below meth cc ad0 Bs hC hT H locs LS ad (hS.tk (gvs_n (hS.vs))))
theorem gp_bipush  {n : Int} {x : Int32} (hd : decode (hb y) pc = .ok (.bipush n, 2)) (h0 : (Int8.ofInt n).toInt32 = x) (k : gG E y (pc + 2) ls (.inl (.int (x)) :: r) I J B c w Q X) : gG E y pc ls (r) I J B c w Q X := by
  intro hc hw p e s m args below meth cc ad0 Bs hC hT H locs LS ad hS
  exact lv_bipush hC.1 hC.2.1 hd h0 (k hc hw p e s m args below meth cc ad0 Bs hC hT H locs LS ad (hS.tk (gvs_n (hS.vs))))
theorem gp_sipush  {n : Int} {x : Int32} (hd : decode (hb y) pc = .ok (.sipush n, 3)) (h0 : (Int16.ofInt n).toInt32 = x) (k : gG E y (pc + 3) ls (.inl (.int (x)) :: r) I J B c w Q X) : gG E y pc ls (r) I J B c w Q X := by
  intro hc hw p e s m args below meth cc ad0 Bs hC hT H locs LS ad hS
  exact lv_sipush hC.1 hC.2.1 hd h0 (k hc hw p e s m args below meth cc ad0 Bs hC hT H locs LS ad (hS.tk (gvs_n (hS.vs))))
theorem gp_lconst  {n : Fin 2} {x : Int64} (hd : decode (hb y) pc = .ok (.lconst n, 1)) (h0 : Int64.ofNat (n : Nat) = x) (k : gG E y (pc + 1) ls (.inl (.long (x)) :: r) I J B c w Q X) : gG E y pc ls (r) I J B c w Q X := by
  intro hc hw p e s m args below meth cc ad0 Bs hC hT H locs LS ad hS
  exact lv_lconst hC.1 hC.2.1 hd h0 (k hc hw p e s m args below meth cc ad0 Bs hC hT H locs LS ad (hS.tk (gvs_n (hS.vs))))
theorem gp_dconst  (hd : decode (hb y) pc = .ok (.dconst 0, 1)) (k : gG E y (pc + 1) ls (.inl (.double (FP.dconst0)) :: r) I J B c w Q X) : gG E y pc ls (r) I J B c w Q X := by
  intro hc hw p e s m args below meth cc ad0 Bs hC hT H locs LS ad hS
  exact lv_dconst0 hC.1 hC.2.1 hd (k hc hw p e s m args below meth cc ad0 Bs hC hT H locs LS ad (hS.tk (gvs_n (hS.vs))))
theorem gp_null (hd : decode (hb y) pc = .ok (.aconst_null, 1)) (k : gG E y (pc + 1) ls (.inl .null :: r) I J B c w Q X) : gG E y pc ls r I J B c w Q X := by
  intro hc hw p e s m args below meth cc ad0 Bs hC hT H locs LS ad hS
  exact lv_null hC.1 hC.2.1 hd (k hc hw p e s m args below meth cc ad0 Bs hC hT H locs LS ad (hS.tk (gvs_n hS.vs)))
theorem gp_ldc2 {n : Nat} {x : Int64} (hd : decode (hb y) pc = .ok (.ldc2_w n, 3)) (h0 : Cond.constantLong (hy y).cls n x ∈ gBig) (k : gG E y (pc + 3) ls (.inl (.long x) :: r) I J B c w Q X) : gG E y pc ls r I J B c w Q X := by
  intro hc hw p e s m args below meth cc ad0 Bs hC hT H locs LS ad hS
  exact lv_ldc2 hC.1 hC.2.1 hC.2.2.2.2.1 (hC.2.2.2.2.2.1 _ h0) hd (k hc hw p e s m args below meth cc ad0 Bs hC hT H locs LS ad (hS.tk (gvs_n hS.vs)))
theorem gTx2_lt : ∀ q ∈ gTx2, q.2.2.2 < 6 := by decide
theorem gp_ldcS {n k0 : Nat} {tx : String} (hd : decode (hb y) pc = .ok (.ldc n, 2)) (h0 : ((hy y).cls, n, tx, k0) ∈ gTx2) (k : gG E y (pc + 2) ls (.inr (2, k0, 0) :: r) I J B c w Q X) : gG E y pc ls r I J B c w Q X := by
  intro hc hw p e s m args below meth cc ad0 Bs hC hT H locs LS ad hS
  obtain ⟨hx, hb, hr, hml, hown, hts, hlk, hE⟩ := hC
  have hq := hE.2.2.2.2.2.2.2.2.2.2.2.1 _ h0
  have e2 : ad (2, k0, 0) = gax E (2, k0, 0) := hS.1.2.2.1 _ (Nat.le_refl 2)
  refine va_ldcS hx hb hown hq hd ?_
  have kk := k hc hw p e s m args below meth cc ad0 Bs ⟨hx, hb, hr, hml, hown, hts, hlk, hE⟩ hT H locs LS ad (hS.tk (gvs_c (Or.inr (Or.inr (Or.inl ⟨rfl, Nat.lt_of_lt_of_le (gTx2_lt _ h0) (by decide), rfl⟩))) hS.vs))
  rw [List.map_cons] at kk
  rw [show gcv ad (.inr (2, k0, 0)) = .ref (gax E (2, k0, 0)) from congrArg Value.ref e2] at kk
  exact kk
theorem gcat_cv (ad : gR → Nat) (v : gV) : (gcv ad v).category = gcat v := by cases v <;> rfl
theorem gp_pop {v : gV} (h0 : gcat v = 1) (hd : decode (hb y) pc = .ok (.pop, 1)) (k : gG E y (pc + 1) ls r I J B c w Q X) : gG E y pc ls (v :: r) I J B c w Q X := by
  intro hc hw p e s m args below meth cc ad0 Bs hC hT H locs LS ad hS
  exact lv_pop hC.1 hC.2.1 hd ((gcat_cv ad v).trans h0) (k hc hw p e s m args below meth cc ad0 Bs hC hT H locs LS ad (hS.tk (gvs_d hS.vs)))
theorem gp_dup {v : gV} (h0 : gcat v = 1) (hd : decode (hb y) pc = .ok (.dup, 1)) (k : gG E y (pc + 1) ls (v :: v :: r) I J B c w Q X) : gG E y pc ls (v :: r) I J B c w Q X := by
  intro hc hw p e s m args below meth cc ad0 Bs hC hT H locs LS ad hS
  exact lv_dup hC.1 hC.2.1 hd ((gcat_cv ad v).trans h0) (k hc hw p e s m args below meth cc ad0 Bs hC hT H locs LS ad (hS.tk (gvs_c (gvs_h hS.vs) hS.vs)))
theorem gp_dup2 {v : gV} (h0 : gcat v = 2) (hd : decode (hb y) pc = .ok (.dup2, 1)) (k : gG E y (pc + 1) ls (v :: v :: r) I J B c w Q X) : gG E y pc ls (v :: r) I J B c w Q X := by
  intro hc hw p e s m args below meth cc ad0 Bs hC hT H locs LS ad hS
  exact lv_dup2_2 hC.1 hC.2.1 hd ((gcat_cv ad v).trans h0) (k hc hw p e s m args below meth cc ad0 Bs hC hT H locs LS ad (hS.tk (gvs_c (gvs_h hS.vs) hS.vs)))
theorem gp_dup2b {v u : gV} (h0 : gcat v = 1) (h1 : gcat u = 1) (hd : decode (hb y) pc = .ok (.dup2, 1)) (k : gG E y (pc + 1) ls (v :: u :: v :: u :: r) I J B c w Q X) : gG E y pc ls (v :: u :: r) I J B c w Q X := by
  intro hc hw p e s m args below meth cc ad0 Bs hC hT H locs LS ad hS
  exact lv_dup2_11 hC.1 hC.2.1 hd ((gcat_cv ad v).trans h0) ((gcat_cv ad u).trans h1) (k hc hw p e s m args below meth cc ad0 Bs hC hT H locs LS ad (hS.tk (gvs_c (gvs_h hS.vs) (gvs_c (gvs_h (gvs_d hS.vs)) hS.vs))))
theorem gp_goto {off : Int} {t : Nat} (hd : decode (hb y) pc = .ok (.goto off, 3)) (ht : (pc : Int) + off = (t : Int)) (k : gG E y t ls st I J B c w Q X) : gG E y pc ls st I J B c w Q X := by
  intro hc hw p e s m args below meth cc ad0 Bs hC hT H locs LS ad hS
  exact lv_goto hC.1 hC.2.1 hd ht (k hc hw p e s m args below meth cc ad0 Bs hC hT H locs LS ad hS)
theorem gp_if_eq {x : Int32} {off : Int} {t : Nat} (hd : decode (hb y) pc = .ok (.ifCond .eq off, 3)) (ht : (pc : Int) + off = (t : Int)) (kt : x = 0 → gG E y t ls r I J B c w Q X) (kf : ¬ (x = 0) → gG E y (pc + 3) ls r I J B c w Q X) : gG E y pc ls (.inl (.int x) :: r) I J B c w Q X := by
  intro hc hw p e s m args below meth cc ad0 Bs hC hT H locs LS ad hS
  exact lv_if_eq hC.1 hC.2.1 hd ht (fun h => kt h hc hw p e s m args below meth cc ad0 Bs hC hT H locs LS ad (hS.tk (gvs_d hS.vs))) (fun h => kf h hc hw p e s m args below meth cc ad0 Bs hC hT H locs LS ad (hS.tk (gvs_d hS.vs)))
theorem gp_if_ne {x : Int32} {off : Int} {t : Nat} (hd : decode (hb y) pc = .ok (.ifCond .ne off, 3)) (ht : (pc : Int) + off = (t : Int)) (kt : ¬ x = 0 → gG E y t ls r I J B c w Q X) (kf : x = 0 → gG E y (pc + 3) ls r I J B c w Q X) : gG E y pc ls (.inl (.int x) :: r) I J B c w Q X := by
  intro hc hw p e s m args below meth cc ad0 Bs hC hT H locs LS ad hS
  exact lv_if_ne hC.1 hC.2.1 hd ht (fun h => kt h hc hw p e s m args below meth cc ad0 Bs hC hT H locs LS ad (hS.tk (gvs_d hS.vs))) (fun h => kf h hc hw p e s m args below meth cc ad0 Bs hC hT H locs LS ad (hS.tk (gvs_d hS.vs)))
theorem gp_if_lt {x : Int32} {off : Int} {t : Nat} (hd : decode (hb y) pc = .ok (.ifCond .lt off, 3)) (ht : (pc : Int) + off = (t : Int)) (kt : x < 0 → gG E y t ls r I J B c w Q X) (kf : ¬ (x < 0) → gG E y (pc + 3) ls r I J B c w Q X) : gG E y pc ls (.inl (.int x) :: r) I J B c w Q X := by
  intro hc hw p e s m args below meth cc ad0 Bs hC hT H locs LS ad hS
  exact lv_if_lt hC.1 hC.2.1 hd ht (fun h => kt h hc hw p e s m args below meth cc ad0 Bs hC hT H locs LS ad (hS.tk (gvs_d hS.vs))) (fun h => kf h hc hw p e s m args below meth cc ad0 Bs hC hT H locs LS ad (hS.tk (gvs_d hS.vs)))
theorem gp_if_ge {x : Int32} {off : Int} {t : Nat} (hd : decode (hb y) pc = .ok (.ifCond .ge off, 3)) (ht : (pc : Int) + off = (t : Int)) (kt : 0 ≤ x → gG E y t ls r I J B c w Q X) (kf : ¬ (0 ≤ x) → gG E y (pc + 3) ls r I J B c w Q X) : gG E y pc ls (.inl (.int x) :: r) I J B c w Q X := by
  intro hc hw p e s m args below meth cc ad0 Bs hC hT H locs LS ad hS
  exact lv_if_ge hC.1 hC.2.1 hd ht (fun h => kt h hc hw p e s m args below meth cc ad0 Bs hC hT H locs LS ad (hS.tk (gvs_d hS.vs))) (fun h => kf h hc hw p e s m args below meth cc ad0 Bs hC hT H locs LS ad (hS.tk (gvs_d hS.vs)))
theorem gp_if_gt {x : Int32} {off : Int} {t : Nat} (hd : decode (hb y) pc = .ok (.ifCond .gt off, 3)) (ht : (pc : Int) + off = (t : Int)) (kt : 0 < x → gG E y t ls r I J B c w Q X) (kf : ¬ (0 < x) → gG E y (pc + 3) ls r I J B c w Q X) : gG E y pc ls (.inl (.int x) :: r) I J B c w Q X := by
  intro hc hw p e s m args below meth cc ad0 Bs hC hT H locs LS ad hS
  exact lv_if_gt hC.1 hC.2.1 hd ht (fun h => kt h hc hw p e s m args below meth cc ad0 Bs hC hT H locs LS ad (hS.tk (gvs_d hS.vs))) (fun h => kf h hc hw p e s m args below meth cc ad0 Bs hC hT H locs LS ad (hS.tk (gvs_d hS.vs)))
theorem gp_if_le {x : Int32} {off : Int} {t : Nat} (hd : decode (hb y) pc = .ok (.ifCond .le off, 3)) (ht : (pc : Int) + off = (t : Int)) (kt : x ≤ 0 → gG E y t ls r I J B c w Q X) (kf : ¬ (x ≤ 0) → gG E y (pc + 3) ls r I J B c w Q X) : gG E y pc ls (.inl (.int x) :: r) I J B c w Q X := by
  intro hc hw p e s m args below meth cc ad0 Bs hC hT H locs LS ad hS
  exact lv_if_le hC.1 hC.2.1 hd ht (fun h => kt h hc hw p e s m args below meth cc ad0 Bs hC hT H locs LS ad (hS.tk (gvs_d hS.vs))) (fun h => kf h hc hw p e s m args below meth cc ad0 Bs hC hT H locs LS ad (hS.tk (gvs_d hS.vs)))
theorem gp_icmp_eq {x z : Int32} {off : Int} {t : Nat} (hd : decode (hb y) pc = .ok (.if_icmp .eq off, 3)) (ht : (pc : Int) + off = (t : Int)) (kt : x = z → gG E y t ls r I J B c w Q X) (kf : ¬ (x = z) → gG E y (pc + 3) ls r I J B c w Q X) : gG E y pc ls (.inl (.int z) :: .inl (.int x) :: r) I J B c w Q X := by
  intro hc hw p e s m args below meth cc ad0 Bs hC hT H locs LS ad hS
  exact lv_icmp_eq hC.1 hC.2.1 hd ht (fun h => kt h hc hw p e s m args below meth cc ad0 Bs hC hT H locs LS ad (hS.tk (gvs_d (gvs_d hS.vs)))) (fun h => kf h hc hw p e s m args below meth cc ad0 Bs hC hT H locs LS ad (hS.tk (gvs_d (gvs_d hS.vs))))
theorem gp_icmp_ne {x z : Int32} {off : Int} {t : Nat} (hd : decode (hb y) pc = .ok (.if_icmp .ne off, 3)) (ht : (pc : Int) + off = (t : Int)) (kt : ¬ x = z → gG E y t ls r I J B c w Q X) (kf : x = z → gG E y (pc + 3) ls r I J B c w Q X) : gG E y pc ls (.inl (.int z) :: .inl (.int x) :: r) I J B c w Q X := by
  intro hc hw p e s m args below meth cc ad0 Bs hC hT H locs LS ad hS
  exact lv_icmp_ne hC.1 hC.2.1 hd ht (fun h => kt h hc hw p e s m args below meth cc ad0 Bs hC hT H locs LS ad (hS.tk (gvs_d (gvs_d hS.vs)))) (fun h => kf h hc hw p e s m args below meth cc ad0 Bs hC hT H locs LS ad (hS.tk (gvs_d (gvs_d hS.vs))))
theorem gp_icmp_lt {x z : Int32} {off : Int} {t : Nat} (hd : decode (hb y) pc = .ok (.if_icmp .lt off, 3)) (ht : (pc : Int) + off = (t : Int)) (kt : x < z → gG E y t ls r I J B c w Q X) (kf : ¬ (x < z) → gG E y (pc + 3) ls r I J B c w Q X) : gG E y pc ls (.inl (.int z) :: .inl (.int x) :: r) I J B c w Q X := by
  intro hc hw p e s m args below meth cc ad0 Bs hC hT H locs LS ad hS
  exact lv_icmp_lt hC.1 hC.2.1 hd ht (fun h => kt h hc hw p e s m args below meth cc ad0 Bs hC hT H locs LS ad (hS.tk (gvs_d (gvs_d hS.vs)))) (fun h => kf h hc hw p e s m args below meth cc ad0 Bs hC hT H locs LS ad (hS.tk (gvs_d (gvs_d hS.vs))))
theorem gp_icmp_ge {x z : Int32} {off : Int} {t : Nat} (hd : decode (hb y) pc = .ok (.if_icmp .ge off, 3)) (ht : (pc : Int) + off = (t : Int)) (kt : z ≤ x → gG E y t ls r I J B c w Q X) (kf : ¬ (z ≤ x) → gG E y (pc + 3) ls r I J B c w Q X) : gG E y pc ls (.inl (.int z) :: .inl (.int x) :: r) I J B c w Q X := by
  intro hc hw p e s m args below meth cc ad0 Bs hC hT H locs LS ad hS
  exact lv_icmp_ge hC.1 hC.2.1 hd ht (fun h => kt h hc hw p e s m args below meth cc ad0 Bs hC hT H locs LS ad (hS.tk (gvs_d (gvs_d hS.vs)))) (fun h => kf h hc hw p e s m args below meth cc ad0 Bs hC hT H locs LS ad (hS.tk (gvs_d (gvs_d hS.vs))))
theorem gp_icmp_gt {x z : Int32} {off : Int} {t : Nat} (hd : decode (hb y) pc = .ok (.if_icmp .gt off, 3)) (ht : (pc : Int) + off = (t : Int)) (kt : z < x → gG E y t ls r I J B c w Q X) (kf : ¬ (z < x) → gG E y (pc + 3) ls r I J B c w Q X) : gG E y pc ls (.inl (.int z) :: .inl (.int x) :: r) I J B c w Q X := by
  intro hc hw p e s m args below meth cc ad0 Bs hC hT H locs LS ad hS
  exact lv_icmp_gt hC.1 hC.2.1 hd ht (fun h => kt h hc hw p e s m args below meth cc ad0 Bs hC hT H locs LS ad (hS.tk (gvs_d (gvs_d hS.vs)))) (fun h => kf h hc hw p e s m args below meth cc ad0 Bs hC hT H locs LS ad (hS.tk (gvs_d (gvs_d hS.vs))))
theorem gp_icmp_le {x z : Int32} {off : Int} {t : Nat} (hd : decode (hb y) pc = .ok (.if_icmp .le off, 3)) (ht : (pc : Int) + off = (t : Int)) (kt : x ≤ z → gG E y t ls r I J B c w Q X) (kf : ¬ (x ≤ z) → gG E y (pc + 3) ls r I J B c w Q X) : gG E y pc ls (.inl (.int z) :: .inl (.int x) :: r) I J B c w Q X := by
  intro hc hw p e s m args below meth cc ad0 Bs hC hT H locs LS ad hS
  exact lv_icmp_le hC.1 hC.2.1 hd ht (fun h => kt h hc hw p e s m args below meth cc ad0 Bs hC hT H locs LS ad (hS.tk (gvs_d (gvs_d hS.vs)))) (fun h => kf h hc hw p e s m args below meth cc ad0 Bs hC hT H locs LS ad (hS.tk (gvs_d (gvs_d hS.vs))))
theorem gp_ifnull_r {q : gR} {off : Int} (hd : decode (hb y) pc = .ok (.ifnull off, 3)) (k : gG E y (pc + 3) ls r I J B c w Q X) : gG E y pc ls (.inr q :: r) I J B c w Q X := by
  intro hc hw p e s m args below meth cc ad0 Bs hC hT H locs LS ad hS
  exact lv_ifnull hC.1 hC.2.1 hd (k hc hw p e s m args below meth cc ad0 Bs hC hT H locs LS ad (hS.tk (gvs_d hS.vs)))
theorem gp_ifnull_n {off : Int} {t : Nat} (hd : decode (hb y) pc = .ok (.ifnull off, 3)) (ht : (pc : Int) + off = (t : Int)) (k : gG E y t ls r I J B c w Q X) : gG E y pc ls (.inl .null :: r) I J B c w Q X := by
  intro hc hw p e s m args below meth cc ad0 Bs hC hT H locs LS ad hS
  exact lv_ifnullN hC.1 hC.2.1 hd ht (k hc hw p e s m args below meth cc ad0 Bs hC hT H locs LS ad (hS.tk (gvs_d hS.vs)))
theorem gp_ifnonnull_r {q : gR} {off : Int} {t : Nat} (hd : decode (hb y) pc = .ok (.ifnonnull off, 3)) (ht : (pc : Int) + off = (t : Int)) (k : gG E y t ls r I J B c w Q X) : gG E y pc ls (.inr q :: r) I J B c w Q X := by
  intro hc hw p e s m args below meth cc ad0 Bs hC hT H locs LS ad hS
  exact lv_ifnonnull hC.1 hC.2.1 hd ht (k hc hw p e s m args below meth cc ad0 Bs hC hT H locs LS ad (hS.tk (gvs_d hS.vs)))
theorem gp_ifnonnull_n {off : Int} (hd : decode (hb y) pc = .ok (.ifnonnull off, 3)) (k : gG E y (pc + 3) ls r I J B c w Q X) : gG E y pc ls (.inl .null :: r) I J B c w Q X := by
  intro hc hw p e s m args below meth cc ad0 Bs hC hT H locs LS ad hS
  exact lv_ifnonnullN hC.1 hC.2.1 hd (k hc hw p e s m args below meth cc ad0 Bs hC hT H locs LS ad (hS.tk (gvs_d hS.vs)))
theorem glk {a : Nat} {v : gV} : ∀ {l : List (Nat × gV)}, l.lookup a = some v → (a, v) ∈ l
  | [], h => by cases h
  | (b, u) :: l, h => by
    rw [List.lookup_cons] at h
    by_cases e : a = b
    · subst e
      simp at h
      subst h
      exact List.mem_cons_self
    · rw [show (a == b) = false from by simpa using e] at h
      exact List.mem_cons_of_mem _ (glk h)
theorem gSt.ld {ad0 : gR → Nat} {Bs : gB} {s : State} {H : Heap} {locs : List Loc} {LS : Array Slot} {ad : gR → Nat} {a : Nat} {v : gV} (h : gSt E y ad0 Bs s H locs LS ad ls st I J B) (hl : ls.lookup a = some v) : LS[a]? = some (.val (gcv ad v)) ∧ gVv B v := ⟨h.2.2.1.2.2 (a, gcv ad v) (List.mem_map.mpr ⟨(a, v), glk hl, rfl⟩), h.2.2.2.2.2.1 _ (glk hl)⟩
theorem gp_iload_n {j : Fin 4} {a : Nat} {x : Int32} (hd : decode (hb y) pc = .ok (.iload_n j, 1)) (hj : (j : Nat) = a) (hl : ls.lookup a = some (.inl (.int x))) (k : gG E y (pc + 1) ls (.inl (.int x) :: r) I J B c w Q X) : gG E y pc ls r I J B c w Q X := by
  intro hc hw p e s m args below meth cc ad0 Bs hC hT H locs LS ad hS
  exact lv_iload_n hC.1 hC.2.1 hd hj (hS.ld hl).1 (k hc hw p e s m args below meth cc ad0 Bs hC hT H locs LS ad (hS.tk (gvs_n hS.vs)))
theorem gp_lload_n {j : Fin 4} {a : Nat} {x : Int64} (hd : decode (hb y) pc = .ok (.lload_n j, 1)) (hj : (j : Nat) = a) (hl : ls.lookup a = some (.inl (.long x))) (k : gG E y (pc + 1) ls (.inl (.long x) :: r) I J B c w Q X) : gG E y pc ls r I J B c w Q X := by
  intro hc hw p e s m args below meth cc ad0 Bs hC hT H locs LS ad hS
  exact lv_lload_n hC.1 hC.2.1 hd hj (hS.ld hl).1 (k hc hw p e s m args below meth cc ad0 Bs hC hT H locs LS ad (hS.tk (gvs_n hS.vs)))
theorem gp_iload {a : Nat} {x : Int32} (hd : decode (hb y) pc = .ok (.iload a, 2)) (hl : ls.lookup a = some (.inl (.int x))) (k : gG E y (pc + 2) ls (.inl (.int x) :: r) I J B c w Q X) : gG E y pc ls r I J B c w Q X := by
  intro hc hw p e s m args below meth cc ad0 Bs hC hT H locs LS ad hS
  exact lv_iload hC.1 hC.2.1 hd (hS.ld hl).1 (k hc hw p e s m args below meth cc ad0 Bs hC hT H locs LS ad (hS.tk (gvs_n hS.vs)))
theorem gp_lload {a : Nat} {x : Int64} (hd : decode (hb y) pc = .ok (.lload a, 2)) (hl : ls.lookup a = some (.inl (.long x))) (k : gG E y (pc + 2) ls (.inl (.long x) :: r) I J B c w Q X) : gG E y pc ls r I J B c w Q X := by
  intro hc hw p e s m args below meth cc ad0 Bs hC hT H locs LS ad hS
  exact lv_lload hC.1 hC.2.1 hd (hS.ld hl).1 (k hc hw p e s m args below meth cc ad0 Bs hC hT H locs LS ad (hS.tk (gvs_n hS.vs)))
theorem gp_dload {a : Nat} {x : UInt64} (hd : decode (hb y) pc = .ok (.dload a, 2)) (hl : ls.lookup a = some (.inl (.double x))) (k : gG E y (pc + 2) ls (.inl (.double x) :: r) I J B c w Q X) : gG E y pc ls r I J B c w Q X := by
  intro hc hw p e s m args below meth cc ad0 Bs hC hT H locs LS ad hS
  exact lv_dload hC.1 hC.2.1 hd (hS.ld hl).1 (k hc hw p e s m args below meth cc ad0 Bs hC hT H locs LS ad (hS.tk (gvs_n hS.vs)))
theorem gp_aload_n {j : Fin 4} {a : Nat} {x : gR} (hd : decode (hb y) pc = .ok (.aload_n j, 1)) (hj : (j : Nat) = a) (hl : ls.lookup a = some (.inr x)) (k : gG E y (pc + 1) ls (.inr x :: r) I J B c w Q X) : gG E y pc ls r I J B c w Q X := by
  intro hc hw p e s m args below meth cc ad0 Bs hC hT H locs LS ad hS
  exact lv_aload_n hC.1 hC.2.1 hd hj (hS.ld hl).1 (k hc hw p e s m args below meth cc ad0 Bs hC hT H locs LS ad (hS.tk (gvs_c (hS.ld hl).2 hS.vs)))
theorem gp_aload {a : Nat} {x : gR} (hd : decode (hb y) pc = .ok (.aload a, 2)) (hl : ls.lookup a = some (.inr x)) (k : gG E y (pc + 2) ls (.inr x :: r) I J B c w Q X) : gG E y pc ls r I J B c w Q X := by
  intro hc hw p e s m args below meth cc ad0 Bs hC hT H locs LS ad hS
  exact lv_aload hC.1 hC.2.1 hd (hS.ld hl).1 (k hc hw p e s m args below meth cc ad0 Bs hC hT H locs LS ad (hS.tk (gvs_c (hS.ld hl).2 hS.vs)))
theorem gp_aload_nN {j : Fin 4} {a : Nat} (hd : decode (hb y) pc = .ok (.aload_n j, 1)) (hj : (j : Nat) = a) (hl : ls.lookup a = some (.inl .null)) (k : gG E y (pc + 1) ls (.inl .null :: r) I J B c w Q X) : gG E y pc ls r I J B c w Q X := by
  intro hc hw p e s m args below meth cc ad0 Bs hC hT H locs LS ad hS
  exact lv_aload_nN hC.1 hC.2.1 hd hj (hS.ld hl).1 (k hc hw p e s m args below meth cc ad0 Bs hC hT H locs LS ad (hS.tk (gvs_n hS.vs)))
theorem gp_aloadN {a : Nat} (hd : decode (hb y) pc = .ok (.aload a, 2)) (hl : ls.lookup a = some (.inl .null)) (k : gG E y (pc + 2) ls (.inl .null :: r) I J B c w Q X) : gG E y pc ls r I J B c w Q X := by
  intro hc hw p e s m args below meth cc ad0 Bs hC hT H locs LS ad hS
  exact lv_aloadN hC.1 hC.2.1 hd (hS.ld hl).1 (k hc hw p e s m args below meth cc ad0 Bs hC hT H locs LS ad (hS.tk (gvs_n hS.vs)))
theorem gmap_f1 (ad : gR → Nat) (a : Nat) (v : gV) : (a, gcv ad v) :: (ls.map (gcp ad)).filter (fun q => !(q.1 == a) && !(q.1 + 1 == a && q.2.category == 2)) = (gset1 ls a v).map (gcp ad) := by
  unfold gset1
  rw [List.map_cons, List.filter_map]
  congr 2
  apply List.filter_congr
  intro q _
  simp only [Function.comp, gcp, gcat_cv]
theorem gmap_f2 (ad : gR → Nat) (a : Nat) (v : gV) : (a, gcv ad v) :: (ls.map (gcp ad)).filter (fun q => !(q.1 == a) && (!(q.1 == a + 1) && !(q.1 + 1 == a && q.2.category == 2))) = (gset2 ls a v).map (gcp ad) := by
  unfold gset2
  rw [List.map_cons, List.filter_map]
  congr 2
  apply List.filter_congr
  intro q _
  simp only [Function.comp, gcp, gcat_cv]
theorem gSt.sv {ad0 : gR → Nat} {Bs : gB} {s : State} {H : Heap} {locs : List Loc} {LS LS2 : Array Slot} {ad : gR → Nat} {ls2 : List (Nat × gV)} {st2 : List gV} (h : gSt E y ad0 Bs s H locs LS ad ls st I J B) (hl : lv_has LS2 (hml y) (ls2.map (gcp ad))) (h2 : ∀ q ∈ ls2, gVv B q.2) (hv : ∀ v ∈ st2, gVv B v) : gSt E y ad0 Bs s H locs LS2 ad ls2 st2 I J B := ⟨h.1, h.2.1, hl, h.2.2.2.1, h.2.2.2.2.1, h2, hv⟩
theorem gset1_v {a : Nat} {v : gV} (h : ∀ q ∈ ls, gVv B q.2) (hv : gVv B v) : ∀ q ∈ gset1 ls a v, gVv B q.2 := by
  intro q hq
  rcases List.mem_cons.mp hq with rfl | hq
  · exact hv
  · exact h q (List.mem_filter.mp hq).1
theorem gset2_v {a : Nat} {v : gV} (h : ∀ q ∈ ls, gVv B q.2) (hv : gVv B v) : ∀ q ∈ gset2 ls a v, gVv B q.2 := by
  intro q hq
  rcases List.mem_cons.mp hq with rfl | hq
  · exact hv
  · exact h q (List.mem_filter.mp hq).1
theorem gp_istore_n {j : Fin 4} {a : Nat} {x : Int32} (hd : decode (hb y) pc = .ok (.istore_n j, 1)) (hj : (j : Nat) = a) (hn : a < hml y) (k : gG E y (pc + 1) (gset1 ls a (.inl (.int x))) r I J B c w Q X) : gG E y pc ls (.inl (.int x) :: r) I J B c w Q X := by
  intro hc hw p e s m args below meth cc ad0 Bs hC hT H locs LS ad hS
  exact lv_istore_n hC.1 hC.2.1 hd hj hS.2.2.1 hn (gmap_f1 ad a (.inl (.int x))) (fun LS2 hl => k hc hw p e s m args below meth cc ad0 Bs hC hT H locs LS2 ad (hS.sv hl (gset1_v hS.2.2.2.2.2.1 trivial) (gvs_d hS.vs)))
theorem gp_istore {a : Nat} {x : Int32} (hd : decode (hb y) pc = .ok (.istore a, 2)) (hn : a < hml y) (k : gG E y (pc + 2) (gset1 ls a (.inl (.int x))) r I J B c w Q X) : gG E y pc ls (.inl (.int x) :: r) I J B c w Q X := by
  intro hc hw p e s m args below meth cc ad0 Bs hC hT H locs LS ad hS
  exact lv_istore hC.1 hC.2.1 hd hS.2.2.1 hn (gmap_f1 ad a (.inl (.int x))) (fun LS2 hl => k hc hw p e s m args below meth cc ad0 Bs hC hT H locs LS2 ad (hS.sv hl (gset1_v hS.2.2.2.2.2.1 trivial) (gvs_d hS.vs)))
theorem gp_lstore_n {j : Fin 4} {a : Nat} {x : Int64} (hd : decode (hb y) pc = .ok (.lstore_n j, 1)) (hj : (j : Nat) = a) (hn : a + 1 < hml y) (k : gG E y (pc + 1) (gset2 ls a (.inl (.long x))) r I J B c w Q X) : gG E y pc ls (.inl (.long x) :: r) I J B c w Q X := by
  intro hc hw p e s m args below meth cc ad0 Bs hC hT H locs LS ad hS
  exact lv_lstore_n hC.1 hC.2.1 hd hj hS.2.2.1 hn (gmap_f2 ad a (.inl (.long x))) (fun LS2 hl => k hc hw p e s m args below meth cc ad0 Bs hC hT H locs LS2 ad (hS.sv hl (gset2_v hS.2.2.2.2.2.1 trivial) (gvs_d hS.vs)))
theorem gp_lstore {a : Nat} {x : Int64} (hd : decode (hb y) pc = .ok (.lstore a, 2)) (hn : a + 1 < hml y) (k : gG E y (pc + 2) (gset2 ls a (.inl (.long x))) r I J B c w Q X) : gG E y pc ls (.inl (.long x) :: r) I J B c w Q X := by
  intro hc hw p e s m args below meth cc ad0 Bs hC hT H locs LS ad hS
  exact lv_lstore hC.1 hC.2.1 hd hS.2.2.1 hn (gmap_f2 ad a (.inl (.long x))) (fun LS2 hl => k hc hw p e s m args below meth cc ad0 Bs hC hT H locs LS2 ad (hS.sv hl (gset2_v hS.2.2.2.2.2.1 trivial) (gvs_d hS.vs)))
theorem gp_dstore {a : Nat} {x : UInt64} (hd : decode (hb y) pc = .ok (.dstore a, 2)) (hn : a + 1 < hml y) (k : gG E y (pc + 2) (gset2 ls a (.inl (.double x))) r I J B c w Q X) : gG E y pc ls (.inl (.double x) :: r) I J B c w Q X := by
  intro hc hw p e s m args below meth cc ad0 Bs hC hT H locs LS ad hS
  exact lv_dstore hC.1 hC.2.1 hd hS.2.2.1 hn (gmap_f2 ad a (.inl (.double x))) (fun LS2 hl => k hc hw p e s m args below meth cc ad0 Bs hC hT H locs LS2 ad (hS.sv hl (gset2_v hS.2.2.2.2.2.1 trivial) (gvs_d hS.vs)))
theorem gp_astore_n {j : Fin 4} {a : Nat} {x : gR} (hd : decode (hb y) pc = .ok (.astore_n j, 1)) (hj : (j : Nat) = a) (hn : a < hml y) (k : gG E y (pc + 1) (gset1 ls a (.inr x)) r I J B c w Q X) : gG E y pc ls (.inr x :: r) I J B c w Q X := by
  intro hc hw p e s m args below meth cc ad0 Bs hC hT H locs LS ad hS
  exact lv_astore_n hC.1 hC.2.1 hd hj hS.2.2.1 hn (gmap_f1 ad a (.inr x)) (fun LS2 hl => k hc hw p e s m args below meth cc ad0 Bs hC hT H locs LS2 ad (hS.sv hl (gset1_v hS.2.2.2.2.2.1 (gvs_h hS.vs)) (gvs_d hS.vs)))
theorem gp_astore_nN {j : Fin 4} {a : Nat} (hd : decode (hb y) pc = .ok (.astore_n j, 1)) (hj : (j : Nat) = a) (hn : a < hml y) (k : gG E y (pc + 1) (gset1 ls a (.inl .null)) r I J B c w Q X) : gG E y pc ls (.inl .null :: r) I J B c w Q X := by
  intro hc hw p e s m args below meth cc ad0 Bs hC hT H locs LS ad hS
  exact lv_astore_nN hC.1 hC.2.1 hd hj hS.2.2.1 hn (gmap_f1 ad a (.inl .null)) (fun LS2 hl => k hc hw p e s m args below meth cc ad0 Bs hC hT H locs LS2 ad (hS.sv hl (gset1_v hS.2.2.2.2.2.1 trivial) (gvs_d hS.vs)))
theorem gp_astore {a : Nat} {x : gR} (hd : decode (hb y) pc = .ok (.astore a, 2)) (hn : a < hml y) (k : gG E y (pc + 2) (gset1 ls a (.inr x)) r I J B c w Q X) : gG E y pc ls (.inr x :: r) I J B c w Q X := by
  intro hc hw p e s m args below meth cc ad0 Bs hC hT H locs LS ad hS
  exact lv_astore hC.1 hC.2.1 hd hS.2.2.1 hn (gmap_f1 ad a (.inr x)) (fun LS2 hl => k hc hw p e s m args below meth cc ad0 Bs hC hT H locs LS2 ad (hS.sv hl (gset1_v hS.2.2.2.2.2.1 (gvs_h hS.vs)) (gvs_d hS.vs)))
theorem gp_astoreN {a : Nat} (hd : decode (hb y) pc = .ok (.astore a, 2)) (hn : a < hml y) (k : gG E y (pc + 2) (gset1 ls a (.inl .null)) r I J B c w Q X) : gG E y pc ls (.inl .null :: r) I J B c w Q X := by
  intro hc hw p e s m args below meth cc ad0 Bs hC hT H locs LS ad hS
  exact lv_astoreN hC.1 hC.2.1 hd hS.2.2.1 hn (gmap_f1 ad a (.inl .null)) (fun LS2 hl => k hc hw p e s m args below meth cc ad0 Bs hC hT H locs LS2 ad (hS.sv hl (gset1_v hS.2.2.2.2.2.1 trivial) (gvs_d hS.vs)))
theorem gp_iinc {a : Nat} {n : Int} {x z : Int32} (hd : decode (hb y) pc = .ok (.iinc a n, 3)) (hz : Int32.ofInt n = z) (hl : ls.lookup a = some (.inl (.int x))) (hn : a < hml y) (k : gG E y (pc + 3) (gset1 ls a (.inl (.int (x + z)))) st I J B c w Q X) : gG E y pc ls st I J B c w Q X := by
  intro hc hw p e s m args below meth cc ad0 Bs hC hT H locs LS ad hS
  obtain ⟨q, hq⟩ := List.getElem?_of_mem (List.mem_map.mpr ⟨(a, .inl (.int x)), glk hl, rfl⟩ : ((a, Value.int x) : Nat × Value) ∈ ls.map (gcp ad))
  exact lv_iinc hC.1 hC.2.1 hd hS.2.2.1 hq (by rw [hz]) hn (gmap_f1 ad a (.inl (.int (x + z)))) (fun LS2 hl => k hc hw p e s m args below meth cc ad0 Bs hC hT H locs LS2 ad (hS.sv hl (gset1_v hS.2.2.2.2.2.1 trivial) hS.vs))
theorem gp_pick {live : List Nat} (k : gG E y pc (gpick live ls) st I J B c w Q X) : gG E y pc ls st I J B c w Q X := by
  intro hc hw p e s m args below meth cc ad0 Bs hC hT H locs LS ad hS
  have hm : ∀ q ∈ gpick live ls, q ∈ ls := by
    intro q hq
    obtain ⟨i, -, hi⟩ := List.mem_filterMap.mp hq
    cases e : ls.lookup i with
    | none => rw [e] at hi; cases hi
    | some v => rw [e] at hi; cases hi; exact glk e
  exact k hc hw p e s m args below meth cc ad0 Bs hC hT H locs LS ad (hS.sv ⟨hS.2.2.1.1, hS.2.2.1.2.1, fun q hq => by
    obtain ⟨z, hz, rfl⟩ := List.mem_map.mp hq
    exact hS.2.2.1.2.2 _ (List.mem_map.mpr ⟨z, hm z hz, rfl⟩)⟩ (fun q hq => hS.2.2.2.2.2.1 q (hm q hq)) hS.vs)
end GP
end
section
/-! ===== the rows that read and write the heap ===== -/
theorem gall_nodup : gall.Nodup := by decide +kernel
theorem gids_nodup (B : gB) : (gids B).Nodup := List.Pairwise.filter _ gall_nodup
theorem gids_all {B : gB} {r : gR} (h : r ∈ gids B) : r ∈ gall := (List.mem_filter.mp h).1
theorem gall_i0 : ∀ r ∈ gall, r.2.2 = 0 ∨ (gobj r.1 = none ∧ (garr r.1).map (fun z => z.1) = some 0) := by decide +kernel
theorem gall_k3 : ∀ r ∈ gall, 3 ≤ r.1 := by decide +kernel
theorem garr_obj {k : Nat} {z : Nat × Nat × Nat} (h : garr k = some z) : gobj k = none := by
  unfold garr at h
  split at h <;> first | rfl | cases h
theorem gV_ids {B : gB} {r : gR} (h : gVl B r) (h3 : 3 ≤ r.1) : r ∈ gids B := by
  rcases h with rfl | h | h | h
  · exact absurd h3 (by decide)
  · omega
  · omega
  · exact h
theorem genc_obj {ca : Nat → ClassId} {ad : gR → Nat} {I : gI} {J : gJ} {B : gB} {r : gR} {ci : Nat} {fl : List (Nat × Nat)} (h : gobj r.1 = some (ci, fl)) : genc ca ad I J B r = .inr (ci, gfvals ad I J r.1 r.2.1 fl) := by
  unfold genc
  rw [h]
theorem genc_arr {ca : Nat → ClassId} {ad : gR → Nat} {I : gI} {J : gJ} {B : gB} {r : gR} {t n rk : Nat} (h : garr r.1 = some (t, n, rk)) : genc ca ad I J B r = garrE ca ad I J B r t n rk := by
  unfold genc
  rw [garr_obj h, h]
theorem gfvals_get {ad : gR → Nat} {I : gI} {J : gJ} {k n b : Nat} {fl : List (Nat × Nat)} {q : Nat × Nat} (h : fl[b]? = some q) : (gfvals ad I J k n fl)[b]? = some (gfval ad I J k n b q.1 q.2) := by
  unfold gfvals
  rw [List.getElem?_mapIdx, h]
  rfl
theorem gfvals_len {ad : gR → Nat} {I : gI} {J : gJ} {k n : Nat} {fl : List (Nat × Nat)} : (gfvals ad I J k n fl).length = fl.length := by
  unfold gfvals
  rw [List.length_mapIdx]
theorem gws_get {E : gEn} {ad : gR → Nat} {I : gI} {J : gJ} {B : gB} {r : gR} (h : r ∈ gids B) : ∃ q : Nat, (gids B)[q]? = some r ∧ (gws E ad I J B)[q]? = some (ad r, genc (gca E) ad I J B r) := by
  obtain ⟨q, hq⟩ := List.getElem?_of_mem h
  exact ⟨q, hq, by unfold gws; rw [List.getElem?_map, hq]; rfl⟩
theorem gws_set {E : gEn} {ad : gR → Nat} {I I2 : gI} {J J2 : gJ} {B B2 : gB} {r : gR} {q : Nat} {e : va_E} (hq : (gids B)[q]? = some r) (hB : gids B2 = gids B) (he : genc (gca E) ad I2 J2 B2 r = e)
    (ho : ∀ r2 ∈ gids B, r2 ≠ r → genc (gca E) ad I2 J2 B2 r2 = genc (gca E) ad I J B r2) : (gws E ad I J B).set q (ad r, e) = gws E ad I2 J2 B2 := by
  subst he
  unfold gws
  rw [hB]
  apply List.ext_getElem?
  intro j
  rw [List.getElem?_set, List.length_map]
  by_cases hj : q = j
  · subst hj
    rw [if_pos rfl, if_pos (List.getElem?_eq_some_iff.mp hq).1, List.getElem?_map, hq]
    rfl
  · rw [if_neg hj, List.getElem?_map, List.getElem?_map]
    cases hr : (gids B)[j]? with
    | none => rfl
    | some r2 =>
      have hne : r2 ≠ r := by
        intro e
        subst e
        obtain ⟨h1, e1⟩ := List.getElem?_eq_some_iff.mp hq
        obtain ⟨h2, e2⟩ := List.getElem?_eq_some_iff.mp hr
        have hp := List.pairwise_iff_getElem.mp (gids_nodup B)
        rcases Nat.lt_or_gt_of_ne hj with h | h
        · exact hp q j h1 h2 h (e1.trans e2.symm)
        · exact hp j q h2 h1 h (e2.trans e1.symm)
      simp only [Option.map_some]
      rw [ho r2 (List.mem_of_getElem? hr) hne]
theorem gUI_ne {I : gI} {k n i j a b c : Nat} {x : Int32} (h : (a, b, c) ≠ ((k, n, i) : gR)) : gUI I k n i j x a b c = I a b c := by
  funext d
  unfold gUI
  rw [if_neg]
  rintro ⟨rfl, rfl, rfl, -⟩
  exact h rfl
theorem gUI_eq {I : gI} {k n i j : Nat} {x : Int32} : gUI I k n i j x k n i = upd (I k n i) j x := by
  funext d
  unfold gUI upd
  simp
theorem gUJ_ne {J : gJ} {k n j a b : Nat} {x : Int64} (h : ¬ (a = k ∧ b = n)) : gUJ J k n j x a b = J a b := by
  funext d
  unfold gUJ
  rw [if_neg]
  rintro ⟨h1, h2, -⟩
  exact h ⟨h1, h2⟩
theorem gUJ_eq {J : gJ} {k n j : Nat} {x : Int64} : gUJ J k n j x k n = vp_updL (J k n) j x := by
  funext d
  unfold gUJ vp_updL
  simp
/-- a thing's picture speaks of its own numbers -/
theorem genc_cong {ca : Nat → ClassId} {ad : gR → Nat} {I I2 : gI} {J J2 : gJ} {B B2 : gB} {r : gR} (hr : r ∈ gall) (hI : I2 r.1 r.2.1 r.2.2 = I r.1 r.2.1 r.2.2) (hJ : (gobj r.1 ≠ none ∨ (garr r.1).map (fun z => z.1) ≠ some 0) → J2 r.1 r.2.1 = J r.1 r.2.1)
    (hB : ∀ n rk, garr r.1 = some (6, n, rk) → ∀ j, j < n → B2 (rk + j + 17) = B (rk + j + 17)) : genc ca ad I2 J2 B2 r = genc ca ad I J B r := by
  unfold genc
  cases ho : gobj r.1 with
  | some z =>
    obtain ⟨ci, fl⟩ := z
    have h0 : r.2.2 = 0 := by
      rcases gall_i0 r hr with h | ⟨h, -⟩
      · exact h
      · rw [h] at ho; cases ho
    rw [h0] at hI
    simp only
    congr 2
    unfold gfvals
    congr 1
    funext j q
    unfold gfval
    rw [hI, hJ (Or.inl (by rw [ho]; exact fun h => by cases h))]
  | none =>
    cases ha : garr r.1 with
    | none => rfl
    | some z =>
      obtain ⟨t, n, rk⟩ := z
      simp only
      unfold garrE
      split
      · rw [hI]
      · rw [hJ (Or.inr (by rw [ha]; simp))]
      · rw [hI]
      · rw [hI]
      · rw [hJ (Or.inr (by rw [ha]; simp))]
      · rfl
      · rename_i t0 h0 h1 h2 h3 h4 h5
        have ht : t = 6 := by
          revert ha h0 h1 h2 h3 h4 h5
          unfold garr
          split <;> intro ha <;> first | (cases ha; first | (intro h0; exact absurd rfl h0) | (intro _ h1; exact absurd rfl h1) | (intro _ _ h1; exact absurd rfl h1) | (intro _ _ _ h1; exact absurd rfl h1) | (intro _ _ _ _ h1; exact absurd rfl h1) | (intro _ _ _ _ _ h1; exact absurd rfl h1) | (intros; rfl)) | cases ha
        subst ht
        congr 7
        funext j
        by_cases hj : j < n
        · rw [hB n rk ha j hj]
        · have e : Nat.blt j n = false := by
            cases h : Nat.blt j n with
            | false => rfl
            | true => exact absurd (Nat.le_of_ble_eq_true h) (by omega)
          rw [e]; rfl

section GH
variable {E : gEn} {y pc : Nat} {ls : List (Nat × gV)} {st r : List gV} {I : gI} {J : gJ} {B : gB} {c w : Nat} {Q : gQt} {X : gXt}
/-- what a field's number in the pool names -/
def gFl (own : String) (n ci b : Nat) : Prop := ∃ (C : String) (T : u_T) (N : Nat) (ty : Nat → FieldType), vwCl[ci]? = some (C, T, N) ∧ (∀ w ∈ u_ws C T N, w ∈ gBig) ∧ b < N ∧ (∀ k, k < N → parseFieldDescriptor (T k).2.2.1 = some (ty k)) ∧ (∀ a, a < N → ∀ b, b < N → a ≠ b → (T a).2.1 ≠ (T b).2.1) ∧
  (Cond.fieldLink own n (T b).1 (T b).2.1 (T b).2.2.1 ∈ gBig ∨ ∃ host, Cond.fieldLinkNest own n (T b).1 (T b).2.1 (T b).2.2.1 host ∈ gNst)
/-- a field that may be written, and its type -/
def gFw (ci b : Nat) (ty : FieldType) : Prop := ∃ (C : String) (T : u_T) (N : Nat), vwCl[ci]? = some (C, T, N) ∧ (T b).2.2.2 = false ∧ parseFieldDescriptor (T b).2.2.1 = some ty
/-- a read of a field, as the heap has it -/
theorem gh_get {p : Program} {e : Env} {R : Room} {s : State} {m : MethodId} {args : Array Value} {below : List Frame} {meth : Method} {cc : Code} {H : Heap} {locs : List Loc} {LS : Array Slot} {Z : State → Prop} {ad : gR → Nat} {n : Nat} {q : gR} {ci b : Nat} {fl : List (Nat × Nat)} {z : Nat × Nat} {rest : List Value}
    (hC : gCx E y p e s m args below meth cc) (hR : gRep E ad I J B H) (hq : q ∈ gids B) (hd : decode (hb y) pc = .ok (.getfield n, 3)) (ho : gobj q.1 = some (ci, fl)) (hf : fl[b]? = some z) (hl : gFl (hy y).cls n ci b)
    (k : W p (gl E) e R s m args below meth cc H locs c w Z (F0 m (pc + 3) LS (gfval ad I J q.1 q.2.1 b z.1 z.2 :: rest))) : W p (gl E) e R s m args below meth cc H locs c w Z (F0 m pc LS (.ref (ad q) :: rest)) := by
  obtain ⟨hx, hb, hr, hml, hown, hts, hlk, hE⟩ := hC
  obtain ⟨C, T, N, ty, h1, h2, h3, h4, h5, h6⟩ := hl
  obtain ⟨q0, -, hq0⟩ := gws_get (E := E) (ad := ad) (I := I) (J := J) hq
  rw [genc_obj ho] at hq0
  rcases h6 with h6 | ⟨host, h6⟩
  · exact va_get (D := gD E) (tys := gtys E) (C := C) (T := T) (N := N) hx hb hts h2 hown hE.1 hR.1 q0 hq0 h1 b h3 (hts _ h6) (fun _ h => h) (gfvals_get hf) hd k
  · exact va_getN (D := gD E) (tys := gtys E) (C := C) (T := T) (N := N) hx hb hts h2 hown hE.1 hR.1 q0 hq0 h1 b h3 (va_Nw.use rfl (hE.2.1 _ h6)) (fun _ h => h) (gfvals_get hf) hd k
/-- the references that fields hold stand -/
theorem gall_ref : ∀ r ∈ gall, ∀ z, gobj r.1 = some z → ∀ f ∈ z.2, 103 ≤ f.1 → (f.1 - 100, r.2.1 + f.2, 0) ∈ gall ∧ (Nat.blt r.2.1 3 = true → Nat.blt (r.2.1 + f.2) 3 = true) ∧ (Nat.blt r.2.1 3 = false → f.2 = 0) := by
  have h : ∀ r ∈ gall, ∀ f ∈ ((gobj r.1).map (fun z => z.2)).getD [], 103 ≤ f.1 → (f.1 - 100, r.2.1 + f.2, 0) ∈ gall ∧ (Nat.blt r.2.1 3 = true → Nat.blt (r.2.1 + f.2) 3 = true) ∧ (Nat.blt r.2.1 3 = false → f.2 = 0) := by decide +kernel
  intro r hr z hz
  have h1 := h r hr
  rw [hz] at h1
  exact h1
/-- what fields hold of the things that are not the world's -/
theorem gall_rlo : ∀ r ∈ gall, ∀ z, gobj r.1 = some z → ∀ f ∈ z.2, 100 ≤ f.1 → f.1 < 103 → f.1 ≠ 101 → (f.1 - 100, r.2.1 + f.2, 0) = ((0, 0, 0) : gR) := by
  have h : ∀ r ∈ gall, ∀ f ∈ ((gobj r.1).map (fun z => z.2)).getD [], 100 ≤ f.1 → f.1 < 103 → f.1 ≠ 101 → (f.1 - 100, r.2.1 + f.2, 0) = ((0, 0, 0) : gR) := by decide +kernel
  intro r hr z hz
  have h1 := h r hr
  rw [hz] at h1
  exact h1
theorem gV_of {q : gR} (h : q ∈ gids B) : gVv B (.inr q) := Or.inr (Or.inr (Or.inr h))
theorem gids_ref {q : gR} {z : Nat × List (Nat × Nat)} {f : Nat × Nat} (hq : q ∈ gids B) (ho : gobj q.1 = some z) (hf : f ∈ z.2) (h100 : 103 ≤ f.1) : (f.1 - 100, q.2.1 + f.2, 0) ∈ gids B := by
  obtain ⟨h1, h2⟩ := List.mem_filter.mp hq
  obtain ⟨g1, g2, g3⟩ := gall_ref q h1 z ho f hf h100
  refine List.mem_filter.mpr ⟨g1, ?_⟩
  cases hb : Nat.blt q.2.1 3 with
  | true => simp only [g2 hb, Bool.true_or]
  | false =>
    rw [g3 hb, Nat.add_zero]
    rw [hb, Bool.false_or] at h2
    simp only [h2, Bool.or_true]
theorem gV_ref {q : gR} {z : Nat × List (Nat × Nat)} {f : Nat × Nat} (hq : q ∈ gids B) (ho : gobj q.1 = some z) (hf : f ∈ z.2) (h100 : 100 ≤ f.1) (h101 : f.1 ≠ 101) : gVl B (f.1 - 100, q.2.1 + f.2, 0) := by
  by_cases h : 103 ≤ f.1
  · exact Or.inr (Or.inr (Or.inr (gids_ref hq ho hf h)))
  · exact Or.inl (gall_rlo q (gids_all hq) z ho f hf h100 (by omega) h101)
theorem gobj_cd {k : Nat} {z : Nat × List (Nat × Nat)} (h : gobj k = some z) : ∀ f ∈ z.2, f.1 ≤ 2 ∨ 100 ≤ f.1 := by
  unfold gobj at h
  split at h <;> first | (cases h; decide) | cases h
theorem gobj_k3 {k : Nat} {z : Nat × List (Nat × Nat)} (h : gobj k = some z) : 3 ≤ k := by
  unfold gobj at h
  split at h <;> first | omega | cases h
theorem gp_getfield {n a b : Nat} {q : gR} (hd : decode (hb y) pc = .ok (.getfield n, 3)) (hl : ∀ z, gobj a = some z → gFl (hy y).cls n z.1 b) (k : gfg I J q a b fun x => gG E y (pc + 3) ls (x :: r) I J B c w Q X) : gG E y pc ls (.inr q :: r) I J B c w Q X := by
  intro hc hw p e s m args below meth cc ad0 Bs hC hT H locs LS ad hS
  unfold gfg at k
  split at k
  · rename_i x ci fl hqa ho
    have hqa : q.1 = a := Nat.eq_of_beq_eq_true hqa
    subst hqa
    have h3 := gobj_k3 ho
    have hq : q ∈ gids B := gV_ids (gvs_h hS.vs) h3
    have hdr := gvs_d hS.vs
    split at k
    · rename_i dn hf
      exact gh_get hC hS.1 hq hd ho hf (hl _ ho) (k hc hw p e s m args below meth cc ad0 Bs hC hT H locs LS ad (hS.tk (gvs_n hdr)))
    · rename_i dn hf
      exact gh_get hC hS.1 hq hd ho hf (hl _ ho) (k hc hw p e s m args below meth cc ad0 Bs hC hT H locs LS ad (hS.tk (gvs_n hdr)))
    · rename_i dn hf
      exact gh_get hC hS.1 hq hd ho hf (hl _ ho) (k hc hw p e s m args below meth cc ad0 Bs hC hT H locs LS ad (hS.tk (gvs_n hdr)))
    · exact absurd k id
    · rename_i cd dn h0 h1 h2 h3 hf
      have h101 : cd ≠ 101 := fun z => h3 z
      have hm := List.mem_of_getElem? hf
      have h100 : 100 ≤ cd := by
        rcases gobj_cd ho _ hm with h | h
        · have e0 : cd ≠ 0 := fun z => h0 z
          have e1 : cd ≠ 1 := fun z => h1 z
          have e2 : cd ≠ 2 := fun z => h2 z
          have h : cd ≤ 2 := h
          omega
        · exact h
      refine gh_get hC hS.1 hq hd ho hf (hl _ ho) ?_
      have hv0 := gV_ref hq ho hm h100 h101
      have hv : gVv B (.inr (cd - 100, q.2.1 + dn, 0)) := hv0
      have kk := k hc hw p e s m args below meth cc ad0 Bs hC hT H locs LS ad (hS.tk (gvs_c hv hdr))
      have e : gfval ad I J q.1 q.2.1 b cd dn = .ref (ad (cd - 100, q.2.1 + dn, 0)) := by
        unfold gfval
        rw [if_neg (by omega), if_neg (by omega)]
      rw [show ((cd, dn) : Nat × Nat).1 = cd from rfl, show ((cd, dn) : Nat × Nat).2 = dn from rfl, e]
      exact kk
    · exact absurd k id
  · exact absurd k id
end GH
end
section
/-! ===== writes and rows of numbers ===== -/
section GH
variable {E : gEn} {y pc : Nat} {ls : List (Nat × gV)} {st r : List gV} {I : gI} {J : gJ} {B : gB} {c w : Nat} {Q : gQt} {X : gXt}
/-- the world behind a write that changes one thing's picture -/
theorem gRep.put {ad : gR → Nat} {H H1 : Heap} {I2 : gI} {J2 : gJ} {B2 : gB} {q : gR} {q0 : Nat} {e : va_E} (hR : gRep E ad I J B H) (hq : (gids B)[q0]? = some q) (hB : gids B2 = gids B) (hk : gBok B2) (he : genc (gca E) ad I2 J2 B2 q = e)
    (ho : ∀ r2 ∈ gids B, r2 ≠ q → genc (gca E) ad I2 J2 B2 r2 = genc (gca E) ad I J B r2) (hP : va_P (gD E) vwCl ((gws E ad I J B).set q0 (ad q, e)) H1) (hD : va_D (gA E) ((gws E ad I J B).set q0 (ad q, e))) : gRep E ad I2 J2 B2 H1 := by
  rw [gws_set (I2 := I2) (J2 := J2) (B2 := B2) hq hB he ho] at hP hD
  exact ⟨hP, hD, hR.2.2.1, hk⟩
theorem gSt.ht {ad0 : gR → Nat} {Bs : gB} {s : State} {H H1 : Heap} {locs locs1 : List Loc} {LS : Array Slot} {ad : gR → Nat} {I2 : gI} {J2 : gJ} {st2 : List gV} (h : gSt E y ad0 Bs s H locs LS ad ls st I J B) (hR : gRep E ad I2 J2 B H1) (hS : va_S (gA E) s.heap H1 locs1) (hv : ∀ v ∈ st2, gVv B v) : gSt E y ad0 Bs s H1 locs1 LS ad ls st2 I2 J2 B := ⟨hR, hS, h.2.2.1, h.2.2.2.1, h.2.2.2.2.1, h.2.2.2.2.2.1, hv⟩
theorem gne_I {q r2 : gR} {I : gI} {j : Nat} {x : Int32} (h : r2 ≠ q) : gUI I q.1 q.2.1 q.2.2 j x r2.1 r2.2.1 r2.2.2 = I r2.1 r2.2.1 r2.2.2 := gUI_ne h
/-- a write of a whole number in a thing -/
theorem genc_UI {ca : Nat → ClassId} {ad : gR → Nat} {q : gR} {j : Nat} {x : Int32} : ∀ r2 ∈ gids B, r2 ≠ q → genc ca ad (gUI I q.1 q.2.1 q.2.2 j x) J B r2 = genc ca ad I J B r2 := fun _ h2 hne => genc_cong (gids_all h2) (gne_I hne) (fun _ => rfl) (fun _ _ _ _ _ => rfl)
theorem genc_UJ {ca : Nat → ClassId} {ad : gR → Nat} {q : gR} {j : Nat} {x : Int64} (hq : q ∈ gids B) (hk : gobj q.1 ≠ none ∨ (garr q.1).map (fun z => z.1) ≠ some 0) : ∀ r2 ∈ gids B, r2 ≠ q → genc ca ad I (gUJ J q.1 q.2.1 j x) B r2 = genc ca ad I J B r2 := by
  intro r2 h2 hne
  refine genc_cong (gids_all h2) rfl (fun h => gUJ_ne ?_) (fun _ _ _ _ _ => rfl)
  rintro ⟨e1, e2⟩
  have z1 : q.2.2 = 0 := by
    rcases gall_i0 q (gids_all hq) with h | ⟨h, h'⟩
    · exact h
    · rcases hk with hk | hk
      · exact absurd h hk
      · exact absurd h' hk
  have z2 : r2.2.2 = 0 := by
    rcases gall_i0 r2 (gids_all h2) with h3 | ⟨h3, h'⟩
    · exact h3
    · rcases h with h | h
      · exact absurd h3 h
      · exact absurd h' h
  exact hne (Prod.ext e1 (Prod.ext e2 (z2.trans z1.symm)))
theorem gobj_0 {q : gR} {z : Nat × List (Nat × Nat)} (hq : q ∈ gids B) (h : gobj q.1 = some z) : q.2.2 = 0 := by
  rcases gall_i0 q (gids_all hq) with h1 | ⟨h1, -⟩
  · exact h1
  · rw [h] at h1; cases h1
theorem gfvals_set_I {ad : gR → Nat} {k n b : Nat} {fl : List (Nat × Nat)} {cd dn : Nat} {x : Int32} (hf : fl[b]? = some (cd, dn)) (hcd : cd ≠ 1 ∧ cd < 100) : (gfvals ad I J k n fl).set b (.int x) = gfvals ad (gUI I k n 0 b x) J k n fl := by
  apply List.ext_getElem?
  intro j
  rw [List.getElem?_set, gfvals_len]
  have hb := (List.getElem?_eq_some_iff.mp hf).1
  by_cases hj : b = j
  · subst hj
    rw [if_pos rfl, if_pos hb, gfvals_get hf]
    unfold gfval
    rw [if_neg hcd.1, if_pos hcd.2]
    simp [gUI]
  · rw [if_neg hj]
    unfold gfvals
    rw [List.getElem?_mapIdx, List.getElem?_mapIdx]
    cases fl[j]? with
    | none => rfl
    | some z =>
      simp only [Option.map_some]
      unfold gfval
      rw [show gUI I k n 0 b x k n 0 j = I k n 0 j from by unfold gUI; rw [if_neg]; rintro ⟨-, -, -, e⟩; exact hj e.symm]
theorem gfvals_set_J {ad : gR → Nat} {k n b : Nat} {fl : List (Nat × Nat)} {dn : Nat} {x : Int64} (hf : fl[b]? = some (1, dn)) : (gfvals ad I J k n fl).set b (.long x) = gfvals ad I (gUJ J k n b x) k n fl := by
  apply List.ext_getElem?
  intro j
  rw [List.getElem?_set, gfvals_len]
  have hb := (List.getElem?_eq_some_iff.mp hf).1
  by_cases hj : b = j
  · subst hj
    rw [if_pos rfl, if_pos hb, gfvals_get hf]
    unfold gfval
    rw [if_pos rfl]
    simp [gUJ]
  · rw [if_neg hj]
    unfold gfvals
    rw [List.getElem?_mapIdx, List.getElem?_mapIdx]
    cases fl[j]? with
    | none => rfl
    | some z =>
      simp only [Option.map_some]
      unfold gfval
      rw [show gUJ J k n b x k n j = J k n j from by unfold gUJ; rw [if_neg]; rintro ⟨-, -, e⟩; exact hj e.symm]
/-- a write of a field, as the heap has it -/
theorem gh_put {p : Program} {e : Env} {R : Room} {s : State} {m : MethodId} {args : Array Value} {below : List Frame} {meth : Method} {cc : Code} {H : Heap} {locs : List Loc} {LS : Array Slot} {Z : State → Prop} {ad : gR → Nat} {n : Nat} {q : gR} {ci b : Nat} {fl : List (Nat × Nat)} {ty : FieldType} {v : Value} {rest : List Value} {I2 : gI} {J2 : gJ}
    (hC : gCx E y p e s m args below meth cc) (hR : gRep E ad I J B H) (hS0 : va_S (gA E) s.heap H locs) (hq : q ∈ gids B) (hd : decode (hb y) pc = .ok (.putfield n, 3)) (ho : gobj q.1 = some (ci, fl)) (hb2 : b < fl.length) (hl : gFl (hy y).cls n ci b) (hfw : gFw ci b ty) (hn : narrow ty v = v) (hfit : fits ty v = true)
    (he : (gfvals ad I J q.1 q.2.1 fl).set b v = gfvals ad I2 J2 q.1 q.2.1 fl) (hoth : ∀ r2 ∈ gids B, r2 ≠ q → genc (gca E) ad I2 J2 B r2 = genc (gca E) ad I J B r2)
    (k : ∀ (H1 : Heap) (locs1 : List Loc), gRep E ad I2 J2 B H1 → va_S (gA E) s.heap H1 locs1 → W p (gl E) e R s m args below meth cc H1 locs1 c w Z (F0 m (pc + 3) LS rest)) : W p (gl E) e R s m args below meth cc H locs c w Z (F0 m pc LS (v :: .ref (ad q) :: rest)) := by
  obtain ⟨hx, hb, hr, hml, hown, hts, hlk, hE⟩ := hC
  obtain ⟨C, T, N, ty0, h1, h2, h3, h4, h5, h6⟩ := hl
  obtain ⟨C', T', N', g1, g2, g3⟩ := hfw
  cases Option.some.inj (g1.symm.trans h1)
  obtain ⟨q0, hq1, hq0⟩ := gws_get (E := E) (ad := ad) (I := I) (J := J) hq
  rw [genc_obj ho] at hq0
  have hlen : b < (gfvals ad I J q.1 q.2.1 fl).length := by rw [gfvals_len]; exact hb2
  rcases h6 with h6 | ⟨host, h6⟩
  · refine va_put (D := gD E) (tys := gtys E) (C := C) (T := T) (N := N) hx hb hts h2 ty0 h4 h5 hown hE.1 hR.1 hR.2.1 hS0 q0 hq0 h1 b h3 (hts _ h6) (fun _ h => h) g2 g3 hn hfit hlen hd (fun H1 locs1 hP hD hS => ?_)
    refine k H1 locs1 (gRep.put (I2 := I2) (J2 := J2) hR hq1 rfl hR.2.2.2 ?_ hoth hP hD) hS
    rw [genc_obj ho, he]
  · refine va_putN (D := gD E) (tys := gtys E) (C := C) (T := T) (N := N) hx hb hts h2 ty0 h4 h5 hown hE.1 hR.1 hR.2.1 hS0 q0 hq0 h1 b h3 (va_Nw.use rfl (hE.2.1 _ h6)) (fun _ h => h) g2 g3 hn hfit hlen hd (fun H1 locs1 hP hD hS => ?_)
    refine k H1 locs1 (gRep.put (I2 := I2) (J2 := J2) hR hq1 rfl hR.2.2.2 ?_ hoth hP hD) hS
    rw [genc_obj ho, he]
theorem gvi_e {v : gV} {k : Int32 → Prop} (h : gvi v k) : ∃ x, v = .inl (.int x) ∧ k x := by
  unfold gvi at h
  split at h
  · exact ⟨_, rfl, h⟩
  · exact absurd h id
theorem gvl_e {v : gV} {k : Int64 → Prop} (h : gvl v k) : ∃ x, v = .inl (.long x) ∧ k x := by
  unfold gvl at h
  split at h
  · exact ⟨_, rfl, h⟩
  · exact absurd h id
theorem gvd_e {v : gV} {k : UInt64 → Prop} (h : gvd v k) : ∃ x, v = .inl (.double x) ∧ k x := by
  unfold gvd at h
  split at h
  · exact ⟨_, rfl, h⟩
  · exact absurd h id
theorem gvr_e {v : gV} {k : gR → Prop} (h : gvr v k) : ∃ x, v = .inr x ∧ k x := by
  unfold gvr at h
  split at h
  · exact ⟨_, rfl, h⟩
  · exact absurd h id
theorem gvn_e {v : gV} {a : Prop} {k : gR → Prop} (h : gvn v a k) : (v = .inl .null ∧ a) ∨ ∃ x, v = .inr x ∧ k x := by
  unfold gvn at h
  split at h
  · exact Or.inr ⟨_, rfl, h⟩
  · exact Or.inl ⟨rfl, h⟩
  · exact absurd h id
theorem fits_bool {x : Int32} (h : x = 0 ∨ x = 1) : narrow .boolean (.int x) = .int x ∧ fits .boolean (.int x) = true := by
  rcases h with rfl | rfl <;> decide
/-- which type a written field has -/
def gFt (cd : Nat) : FieldType := if cd = 1 then .long else if cd = 2 then .boolean else .int
theorem gp_putfield {n a b : Nat} {q : gR} {v : gV} (hd : decode (hb y) pc = .ok (.putfield n, 3)) (hl : ∀ z, gobj a = some z → gFl (hy y).cls n z.1 b ∧ ∀ u, z.2[b]? = some u → u.1 ≤ 2 → gFw z.1 b (gFt u.1)) (k : gfp I J q a b v fun I2 J2 => gG E y (pc + 3) ls r I2 J2 B c w Q X) : gG E y pc ls (v :: .inr q :: r) I J B c w Q X := by
  intro hc hw p e s m args below meth cc ad0 Bs hC hT H locs LS ad hS
  unfold gfp at k
  split at k
  · rename_i x ci fl hqa ho
    have hqa : q.1 = a := Nat.eq_of_beq_eq_true hqa
    subst hqa
    have h3 := gobj_k3 ho
    have hq : q ∈ gids B := gV_ids (gvs_h (gvs_d hS.vs)) h3
    have hz := gobj_0 hq ho
    have hdr := gvs_d (gvs_d hS.vs)
    obtain ⟨hl1, hl2⟩ := hl _ ho
    have hI : ∀ x : Int32, ∀ r2 ∈ gids B, r2 ≠ q → genc (gca E) ad (gUI I q.1 q.2.1 0 b x) J B r2 = genc (gca E) ad I J B r2 := fun x => by
      have h := genc_UI (ca := gca E) (ad := ad) (I := I) (J := J) (B := B) (q := q) (j := b) (x := x)
      rw [hz] at h
      exact h
    split at k
    · rename_i dn hf
      obtain ⟨x, rfl, k⟩ := gvi_e k
      exact gh_put hC hS.1 hS.2.1 hq hd ho (List.getElem?_eq_some_iff.mp hf).1 hl1 (hl2 _ hf (show (0 : Nat) ≤ 2 by decide)) rfl rfl (gfvals_set_I hf ⟨by decide, by decide⟩) (hI x) (fun H1 locs1 hR hS1 => k hc hw p e s m args below meth cc ad0 Bs hC hT H1 locs1 LS ad (hS.ht hR hS1 hdr))
    · rename_i dn hf
      obtain ⟨x, rfl, k⟩ := gvl_e k
      exact gh_put hC hS.1 hS.2.1 hq hd ho (List.getElem?_eq_some_iff.mp hf).1 hl1 (hl2 _ hf (show (1 : Nat) ≤ 2 by decide)) rfl rfl (gfvals_set_J hf) (genc_UJ hq (Or.inl (by rw [ho]; exact fun h => by cases h))) (fun H1 locs1 hR hS1 => k hc hw p e s m args below meth cc ad0 Bs hC hT H1 locs1 LS ad (hS.ht hR hS1 hdr))
    · rename_i dn hf
      obtain ⟨x, rfl, h01, k⟩ := gvi_e k
      exact gh_put hC hS.1 hS.2.1 hq hd ho (List.getElem?_eq_some_iff.mp hf).1 hl1 (hl2 _ hf (show (2 : Nat) ≤ 2 by decide)) (fits_bool h01).1 (fits_bool h01).2 (gfvals_set_I hf ⟨by decide, by decide⟩) (hI x) (fun H1 locs1 hR hS1 => k hc hw p e s m args below meth cc ad0 Bs hC hT H1 locs1 LS ad (hS.ht hR hS1 hdr))
    · exact absurd k id
  · exact absurd k id
/-! rows of numbers -/
theorem garr_k3 {k : Nat} {z : Nat × Nat × Nat} (h : garr k = some z) : 3 ≤ k := by
  unfold garr at h
  split at h <;> first | omega | cases h
theorem gq_ids {q : gR} {z : Nat × Nat × Nat} (h : gVl B q) (ha : garr q.1 = some z) : q ∈ gids B := gV_ids h (garr_k3 ha)
theorem gx_0 (ad : gR → Nat) (H : Heap) (hR : gRep E ad I J B H) (q : gR) (h : gVl B q) (hk : q.1 = 0) : ad q = gax E (0, 0, 0) := by
  rcases h with rfl | h | h | h
  · exact hR.2.2.1 _ (by decide)
  · omega
  · omega
  · exact absurd (gall_k3 q (gids_all h)) (by omega)
theorem gx_1 (ad : gR → Nat) (H : Heap) (hR : gRep E ad I J B H) (q : gR) (h : gVl B q) (hk : q.1 = 1) : ad q = gax E (1, 0, 0) ∨ ad q = gax E (1, 1, 0) := by
  rcases h with rfl | h | h | h
  · exact absurd hk (by decide)
  · obtain ⟨q1, q2, q3⟩ := q
    obtain ⟨h1, h2, h3⟩ := h
    simp only at h1 h2 h3
    subst h1
    subst h3
    rcases (show q2 = 0 ∨ q2 = 1 by omega) with rfl | rfl
    · exact Or.inl (hR.2.2.1 _ (by decide))
    · exact Or.inr (hR.2.2.1 _ (by decide))
  · omega
  · exact absurd (gall_k3 q (gids_all h)) (by omega)
theorem gp_iaload {q : gR} {i : Int32} (hd : decode (hb y) pc = .ok (.iaload, 1)) (k : gial (gL E) (gXs E) I q i fun x => gG E y (pc + 1) ls (.inl (.int x) :: r) I J B c w Q X) : gG E y pc ls (.inl (.int i) :: .inr q :: r) I J B c w Q X := by
  intro hc hw p e s m args below meth cc ad0 Bs hC hT H locs LS ad hS
  have hv := gvs_h (gvs_d hS.vs)
  have hdr := gvs_d (gvs_d hS.vs)
  have hE := hC.2.2.2.2.2.2.2
  unfold gial at k
  split at k
  · rename_i hk
    obtain ⟨hin, k⟩ := k
    have h7 := hE.2.2.2.2.2.2.2.2.1
    have h8 := hE.2.2.2.2.2.2.2.2.2.1
    have e0 : gcv ad (.inr q) = .ref (gax E (0, 0, 0)) := congrArg Value.ref (gx_0 ad H hS.1 q hv hk)
    rw [List.map_cons, List.map_cons, e0]
    exact va_sld hC.1 hC.2.1 h7 h8.2 h8.1 hS.2.1 hin hd (k hc hw p e s m args below meth cc ad0 Bs hC hT H locs LS ad (hS.tk (gvs_n hdr)))
  · rename_i hk
    obtain ⟨hin, k⟩ := k
    have h6 := hE.2.2.2.2.2.1
    rcases gx_1 ad H hS.1 q hv hk with e1 | e1
    · have e0 : gcv ad (.inr q) = .ref (gax E (1, 0, 0)) := congrArg Value.ref e1
      rw [List.map_cons, List.map_cons, e0]
      exact va_ti hC.1 hC.2.1 h6 hS.2.1 hin rfl hd (k hc hw p e s m args below meth cc ad0 Bs hC hT H locs LS ad (hS.tk (gvs_n hdr)))
    · have e0 : gcv ad (.inr q) = .ref (gax E (1, 1, 0)) := congrArg Value.ref e1
      rw [List.map_cons, List.map_cons, e0]
      exact va_ti hC.1 hC.2.1 hE.2.2.2.2.2.2.2.1 hS.2.1 hin rfl hd (k hc hw p e s m args below meth cc ad0 Bs hC hT H locs LS ad (hS.tk (gvs_n hdr)))
  · split at k
    · rename_i n rk ha
      obtain ⟨hin, k⟩ := k
      have hq := gq_ids hv ha
      obtain ⟨q0, -, hq0⟩ := gws_get (E := E) (ad := ad) (I := I) (J := J) hq
      rw [genc_arr ha] at hq0
      exact va_iald hC.1 hC.2.1 hE.1 hS.1.1 q0 0 hq0 rfl hin hd (k hc hw p e s m args below meth cc ad0 Bs hC hT H locs LS ad (hS.tk (gvs_n hdr)))
    · exact absurd k id
theorem gp_baload {q : gR} {i : Int32} (hd : decode (hb y) pc = .ok (.baload, 1)) (k : gbal I q i fun x => gG E y (pc + 1) ls (.inl (.int x) :: r) I J B c w Q X) : gG E y pc ls (.inl (.int i) :: .inr q :: r) I J B c w Q X := by
  intro hc hw p e s m args below meth cc ad0 Bs hC hT H locs LS ad hS
  have hv := gvs_h (gvs_d hS.vs)
  have hdr := gvs_d (gvs_d hS.vs)
  have hE := hC.2.2.2.2.2.2.2
  unfold gbal at k
  split at k
  · rename_i n rk ha
    obtain ⟨hin, k⟩ := k
    obtain ⟨q0, -, hq0⟩ := gws_get (E := E) (ad := ad) (I := I) (J := J) (gq_ids hv ha)
    rw [genc_arr ha] at hq0
    exact va_zald hC.1 hC.2.1 hE.1 hS.1.1 q0 2 hq0 rfl hin hd (k hc hw p e s m args below meth cc ad0 Bs hC hT H locs LS ad (hS.tk (gvs_n hdr)))
  · rename_i n rk ha
    obtain ⟨hin, k⟩ := k
    obtain ⟨q0, -, hq0⟩ := gws_get (E := E) (ad := ad) (I := I) (J := J) (gq_ids hv ha)
    rw [genc_arr ha] at hq0
    exact va_bald hC.1 hC.2.1 hE.1 hS.1.1 q0 3 hq0 rfl hin hd (k hc hw p e s m args below meth cc ad0 Bs hC hT H locs LS ad (hS.tk (gvs_n hdr)))
  · exact absurd k id
theorem gp_laload {q : gR} {i : Int32} (hd : decode (hb y) pc = .ok (.laload, 1)) (k : glal J q i fun x => gG E y (pc + 1) ls (.inl (.long x) :: r) I J B c w Q X) : gG E y pc ls (.inl (.int i) :: .inr q :: r) I J B c w Q X := by
  intro hc hw p e s m args below meth cc ad0 Bs hC hT H locs LS ad hS
  have hv := gvs_h (gvs_d hS.vs)
  have hdr := gvs_d (gvs_d hS.vs)
  have hE := hC.2.2.2.2.2.2.2
  unfold glal at k
  split at k
  · rename_i n rk ha
    obtain ⟨hin, k⟩ := k
    obtain ⟨q0, -, hq0⟩ := gws_get (E := E) (ad := ad) (I := I) (J := J) (gq_ids hv ha)
    rw [genc_arr ha] at hq0
    exact va_lald hC.1 hC.2.1 hE.1 hS.1.1 q0 1 hq0 rfl hin hd (k hc hw p e s m args below meth cc ad0 Bs hC hT H locs LS ad (hS.tk (gvs_n hdr)))
  · exact absurd k id
theorem gp_daload {q : gR} {i : Int32} (hd : decode (hb y) pc = .ok (.daload, 1)) (k : gdal J q i fun x => gG E y (pc + 1) ls (.inl (.double x) :: r) I J B c w Q X) : gG E y pc ls (.inl (.int i) :: .inr q :: r) I J B c w Q X := by
  intro hc hw p e s m args below meth cc ad0 Bs hC hT H locs LS ad hS
  have hv := gvs_h (gvs_d hS.vs)
  have hdr := gvs_d (gvs_d hS.vs)
  have hE := hC.2.2.2.2.2.2.2
  unfold gdal at k
  split at k
  · rename_i n rk ha
    obtain ⟨hin, k⟩ := k
    obtain ⟨q0, -, hq0⟩ := gws_get (E := E) (ad := ad) (I := I) (J := J) (gq_ids hv ha)
    rw [genc_arr ha] at hq0
    exact va_dald hC.1 hC.2.1 hE.1 hS.1.1 q0 4 hq0 rfl hin hd (k hc hw p e s m args below meth cc ad0 Bs hC hT H locs LS ad (hS.tk (gvs_n hdr)))
  · exact absurd k id
theorem gp_iastore {q : gR} {i x : Int32} (hd : decode (hb y) pc = .ok (.iastore, 1)) (k : gias I q i x fun I2 => gG E y (pc + 1) ls r I2 J B c w Q X) : gG E y pc ls (.inl (.int x) :: .inl (.int i) :: .inr q :: r) I J B c w Q X := by
  intro hc hw p e s m args below meth cc ad0 Bs hC hT H locs LS ad hS
  have hv := gvs_h (gvs_d (gvs_d hS.vs))
  have hdr := gvs_d (gvs_d (gvs_d hS.vs))
  have hE := hC.2.2.2.2.2.2.2
  unfold gias at k
  split at k
  · rename_i n rk ha
    obtain ⟨hin, k⟩ := k
    obtain ⟨q0, hq1, hq0⟩ := gws_get (E := E) (ad := ad) (I := I) (J := J) (gq_ids hv ha)
    rw [genc_arr ha] at hq0
    refine va_iast hC.1 hC.2.1 hE.1 hS.1.1 hS.1.2.1 hS.2.1 q0 0 hq0 rfl hin hd (fun H1 locs1 hP hD hS1 => ?_)
    refine k hc hw p e s m args below meth cc ad0 Bs hC hT H1 locs1 LS ad (hS.ht (gRep.put hS.1 hq1 rfl hS.1.2.2.2 ?_ genc_UI hP hD) hS1 hdr)
    rw [genc_arr ha]
    unfold garrE
    simp only
    rw [gUI_eq]
  · exact absurd k id
theorem gp_bastore {q : gR} {i x : Int32} (hd : decode (hb y) pc = .ok (.bastore, 1)) (k : gbas I q i x fun I2 => gG E y (pc + 1) ls r I2 J B c w Q X) : gG E y pc ls (.inl (.int x) :: .inl (.int i) :: .inr q :: r) I J B c w Q X := by
  intro hc hw p e s m args below meth cc ad0 Bs hC hT H locs LS ad hS
  have hv := gvs_h (gvs_d (gvs_d hS.vs))
  have hdr := gvs_d (gvs_d (gvs_d hS.vs))
  have hE := hC.2.2.2.2.2.2.2
  unfold gbas at k
  split at k
  · rename_i n rk ha
    obtain ⟨hin, k⟩ := k
    obtain ⟨q0, hq1, hq0⟩ := gws_get (E := E) (ad := ad) (I := I) (J := J) (gq_ids hv ha)
    rw [genc_arr ha] at hq0
    refine va_zast hC.1 hC.2.1 hE.1 hS.1.1 hS.1.2.1 hS.2.1 q0 2 hq0 rfl hin hd (fun H1 locs1 hP hD hS1 => ?_)
    refine k hc hw p e s m args below meth cc ad0 Bs hC hT H1 locs1 LS ad (hS.ht (gRep.put hS.1 hq1 rfl hS.1.2.2.2 ?_ genc_UI hP hD) hS1 hdr)
    rw [genc_arr ha]
    unfold garrE
    simp only
    rw [gUI_eq]
  · rename_i n rk ha
    obtain ⟨hin, k⟩ := k
    obtain ⟨q0, hq1, hq0⟩ := gws_get (E := E) (ad := ad) (I := I) (J := J) (gq_ids hv ha)
    rw [genc_arr ha] at hq0
    refine va_bast hC.1 hC.2.1 hE.1 hS.1.1 hS.1.2.1 hS.2.1 q0 3 hq0 rfl hin hd (fun H1 locs1 hP hD hS1 => ?_)
    rw [vp_nar_byte] at hP hD
    refine k hc hw p e s m args below meth cc ad0 Bs hC hT H1 locs1 LS ad (hS.ht (gRep.put hS.1 hq1 rfl hS.1.2.2.2 ?_ genc_UI hP hD) hS1 hdr)
    rw [genc_arr ha]
    unfold garrE
    simp only
    rw [gUI_eq]
  · exact absurd k id
theorem gp_lastore {q : gR} {i : Int32} {x : Int64} (hd : decode (hb y) pc = .ok (.lastore, 1)) (k : glas J q i x fun J2 => gG E y (pc + 1) ls r I J2 B c w Q X) : gG E y pc ls (.inl (.long x) :: .inl (.int i) :: .inr q :: r) I J B c w Q X := by
  intro hc hw p e s m args below meth cc ad0 Bs hC hT H locs LS ad hS
  have hv := gvs_h (gvs_d (gvs_d hS.vs))
  have hdr := gvs_d (gvs_d (gvs_d hS.vs))
  have hE := hC.2.2.2.2.2.2.2
  unfold glas at k
  split at k
  · rename_i n rk ha
    obtain ⟨hin, k⟩ := k
    have hq := gq_ids hv ha
    obtain ⟨q0, hq1, hq0⟩ := gws_get (E := E) (ad := ad) (I := I) (J := J) hq
    rw [genc_arr ha] at hq0
    refine va_last hC.1 hC.2.1 hE.1 hS.1.1 hS.1.2.1 hS.2.1 q0 1 hq0 rfl hin hd (fun H1 locs1 hP hD hS1 => ?_)
    refine k hc hw p e s m args below meth cc ad0 Bs hC hT H1 locs1 LS ad (hS.ht (gRep.put hS.1 hq1 rfl hS.1.2.2.2 ?_ (genc_UJ hq (Or.inr (by rw [ha]; simp))) hP hD) hS1 hdr)
    rw [genc_arr ha]
    unfold garrE
    simp only
    rw [gUJ_eq]
  · exact absurd k id
theorem gp_dastore {q : gR} {i : Int32} {x : UInt64} (hd : decode (hb y) pc = .ok (.dastore, 1)) (k : gdas J q i x fun J2 => gG E y (pc + 1) ls r I J2 B c w Q X) : gG E y pc ls (.inl (.double x) :: .inl (.int i) :: .inr q :: r) I J B c w Q X := by
  intro hc hw p e s m args below meth cc ad0 Bs hC hT H locs LS ad hS
  have hv := gvs_h (gvs_d (gvs_d hS.vs))
  have hdr := gvs_d (gvs_d (gvs_d hS.vs))
  have hE := hC.2.2.2.2.2.2.2
  unfold gdas at k
  split at k
  · rename_i n rk ha
    obtain ⟨hin, k⟩ := k
    have hq := gq_ids hv ha
    obtain ⟨q0, hq1, hq0⟩ := gws_get (E := E) (ad := ad) (I := I) (J := J) hq
    rw [genc_arr ha] at hq0
    refine va_dast hC.1 hC.2.1 hE.1 hS.1.1 hS.1.2.1 hS.2.1 q0 4 hq0 rfl hin hd (fun H1 locs1 hP hD hS1 => ?_)
    refine k hc hw p e s m args below meth cc ad0 Bs hC hT H1 locs1 LS ad (hS.ht (gRep.put hS.1 hq1 rfl hS.1.2.2.2 ?_ (genc_UJ hq (Or.inr (by rw [ha]; simp))) hP hD) hS1 hdr)
    rw [genc_arr ha]
    unfold garrE
    simp only
    rw [gUJ_eq]
    congr 7
    funext j
    simp only [vp_updL, vf_upd]
    split <;> simp
  · exact absurd k id
theorem gp_arraylength {q : gR} (hd : decode (hb y) pc = .ok (.arraylength, 1)) (k : gln (gL E) q fun x => gG E y (pc + 1) ls (.inl (.int x) :: r) I J B c w Q X) : gG E y pc ls (.inr q :: r) I J B c w Q X := by
  intro hc hw p e s m args below meth cc ad0 Bs hC hT H locs LS ad hS
  have hv := gvs_h hS.vs
  have hdr := gvs_d hS.vs
  have hE := hC.2.2.2.2.2.2.2
  unfold gln at k
  split at k
  · rename_i hk
    have h7 := hE.2.2.2.2.2.2.2.2.1
    have h8 := hE.2.2.2.2.2.2.2.2.2.1
    have e0 : gcv ad (.inr q) = .ref (gax E (0, 0, 0)) := congrArg Value.ref (gx_0 ad H hS.1 q hv hk)
    rw [List.map_cons, e0]
    exact va_slen hC.1 hC.2.1 h7 h8.2 h8.1 hS.2.1 hd (k hc hw p e s m args below meth cc ad0 Bs hC hT H locs LS ad (hS.tk (gvs_n hdr)))
  · rename_i hk
    have h6 := hE.2.2.2.2.2.1
    rcases gx_1 ad H hS.1 q hv hk with e1 | e1
    · have e0 : gcv ad (.inr q) = .ref (gax E (1, 0, 0)) := congrArg Value.ref e1
      rw [List.map_cons, e0]
      exact va_tlen hC.1 hC.2.1 h6 hS.2.1 rfl hd (k hc hw p e s m args below meth cc ad0 Bs hC hT H locs LS ad (hS.tk (gvs_n hdr)))
    · have e0 : gcv ad (.inr q) = .ref (gax E (1, 1, 0)) := congrArg Value.ref e1
      rw [List.map_cons, e0]
      exact va_tlen hC.1 hC.2.1 hE.2.2.2.2.2.2.2.1 hS.2.1 rfl hd (k hc hw p e s m args below meth cc ad0 Bs hC hT H locs LS ad (hS.tk (gvs_n hdr)))
  · split at k
    · rename_i t n rk ha
      have hq := gq_ids hv ha
      obtain ⟨q0, -, hq0⟩ := gws_get (E := E) (ad := ad) (I := I) (J := J) hq
      rw [genc_arr ha] at hq0
      have hh := k hc hw p e s m args below meth cc ad0 Bs hC hT H locs LS ad (hS.tk (gvs_n hdr))
      unfold garrE at hq0
      split at hq0
      · exact va_alen hC.1 hC.2.1 hE.1 hS.1.1 q0 0 hq0 (ty := .int) rfl rfl hd hh
      · exact va_alen hC.1 hC.2.1 hE.1 hS.1.1 q0 1 hq0 (ty := .long) rfl rfl hd hh
      · exact va_alen hC.1 hC.2.1 hE.1 hS.1.1 q0 2 hq0 (ty := .boolean) rfl rfl hd hh
      · exact va_alen hC.1 hC.2.1 hE.1 hS.1.1 q0 3 hq0 (ty := .byte) rfl rfl hd hh
      · exact va_alen hC.1 hC.2.1 hE.1 hS.1.1 q0 4 hq0 (ty := .double) rfl rfl hd hh
      · exact va_alen hC.1 hC.2.1 hE.1 hS.1.1 q0 5 hq0 (ty := .array .int) rfl rfl hd hh
      · exact va_alen hC.1 hC.2.1 hE.1 hS.1.1 q0 6 hq0 (ty := .object "ToeplitzLab$State") rfl rfl hd hh
    · exact absurd k id
theorem gp_getstatic {n : Nat} (hd : decode (hb y) pc = .ok (.getstatic n, 3)) (hl : Cond.fieldLink (hy y).cls n "ToeplitzLab" "PRIMES" "[I" ∈ gBig) (k : gG E y (pc + 3) ls (.inr (1, 0, 0) :: r) I J B c w Q X) : gG E y pc ls r I J B c w Q X := by
  intro hc hw p e s m args below meth cc ad0 Bs hC hT H locs LS ad hS
  have hE := hC.2.2.2.2.2.2.2
  have e2 : ad (1, 0, 0) = gax E (1, 0, 0) := hS.1.2.2.1 _ (by decide)
  refine va_gets hC.1 hC.2.1 hE.2.2.2.2.1 hS.2.1 hC.2.2.2.2.1 (hC.2.2.2.2.2.1 _ hl) (fun _ h => h) hd ?_
  have kk := k hc hw p e s m args below meth cc ad0 Bs hC hT H locs LS ad (hS.tk (gvs_c (Or.inr (Or.inl ⟨rfl, (show (0 : Nat) < 2 by decide), rfl⟩)) hS.vs))
  rw [List.map_cons, show gcv ad (.inr (1, 0, 0)) = .ref (gax E (1, 0, 0)) from congrArg Value.ref e2] at kk
  exact kk
theorem gp_getstatic1 {n : Nat} (hd : decode (hb y) pc = .ok (.getstatic n, 3)) (hl : Cond.fieldLink (hy y).cls n "ToeplitzLabLaw" "PRIMES" "[I" ∈ gBig) (k : gG E y (pc + 3) ls (.inr (1, 1, 0) :: r) I J B c w Q X) : gG E y pc ls r I J B c w Q X := by
  intro hc hw p e s m args below meth cc ad0 Bs hC hT H locs LS ad hS
  have hE := hC.2.2.2.2.2.2.2
  have e2 : ad (1, 1, 0) = gax E (1, 1, 0) := hS.1.2.2.1 _ (by decide)
  refine va_gets hC.1 hC.2.1 hE.2.2.2.2.2.2.1 hS.2.1 hC.2.2.2.2.1 (hC.2.2.2.2.2.1 _ hl) (fun _ h => h) hd ?_
  have kk := k hc hw p e s m args below meth cc ad0 Bs hC hT H locs LS ad (hS.tk (gvs_c (Or.inr (Or.inl ⟨rfl, (show (1 : Nat) < 2 by decide), rfl⟩)) hS.vs))
  rw [List.map_cons, show gcv ad (.inr (1, 1, 0)) = .ref (gax E (1, 1, 0)) from congrArg Value.ref e2] at kk
  exact kk
end GH
end
section
/-! ===== rows of references, copies, ends, throws, calls ===== -/
section GH
variable {E : gEn} {y pc : Nat} {ls : List (Nat × gV)} {st r : List gV} {I : gI} {J : gJ} {B : gB} {c w : Nat} {Q : gQt} {X : gXt}
/-- the rows that outer rows hold stand; the states that kept rows hold stand -/
theorem gall_rows : ∀ r ∈ gall, ∀ n rk, garr r.1 = some (5, n, rk) → ∀ j, j < n → (rk, r.2.1, j) ∈ gall := by
  have h : ∀ r ∈ gall, (garr r.1).all (fun z => !(Nat.beq z.1 5) || (List.range z.2.1).all (fun j => decide ((z.2.2, r.2.1, j) ∈ gall))) = true := by decide +kernel
  intro r hr n rk ha j hj
  have h1 := h r hr
  rw [ha] at h1
  simp only [Option.all_some] at h1
  have h2 : (List.range n).all (fun j => decide ((rk, r.2.1, j) ∈ gall)) = true := h1
  have h3 := List.all_eq_true.mp h2 j (List.mem_range.mpr hj)
  exact of_decide_eq_true h3
theorem gall_sts : ∀ k n rk, garr k = some (6, n, rk) → 3 ≤ rk ∧ rk + n ≤ 13 := by
  intro k n rk h
  unfold garr at h
  split at h <;> cases h <;> decide
theorem gall_st : ∀ m, m ≤ 12 → (6, m, 0) ∈ gall := by
  have h : ∀ m, m < 13 → (6, m, 0) ∈ gall := by decide +kernel
  intro m hm
  exact h m (by omega)
theorem gids_st {m : Nat} (h : m ≤ 12) (hB : B m = true) : (6, m, 0) ∈ gids B := List.mem_filter.mpr ⟨gall_st m h, by simp only [hB, Bool.or_true]⟩
theorem gids_row {q : gR} {n rk j : Nat} (hq : q ∈ gids B) (ha : garr q.1 = some (5, n, rk)) (hj : j < n) : (rk, q.2.1, j) ∈ gids B := by
  obtain ⟨h1, h2⟩ := List.mem_filter.mp hq
  exact List.mem_filter.mpr ⟨gall_rows q h1 n rk ha j hj, h2⟩
theorem gp_aaload {q : gR} {i : Int32} (hd : decode (hb y) pc = .ok (.aaload, 1)) (k : gaal B q i fun x => gG E y (pc + 1) ls (x :: r) I J B c w Q X) : gG E y pc ls (.inl (.int i) :: .inr q :: r) I J B c w Q X := by
  intro hc hw p e s m args below meth cc ad0 Bs hC hT H locs LS ad hS
  have hv := gvs_h (gvs_d hS.vs)
  have hdr := gvs_d (gvs_d hS.vs)
  have hE := hC.2.2.2.2.2.2.2
  unfold gaal at k
  split at k
  · rename_i n rk ha
    obtain ⟨hin, k⟩ := k
    have hlt : i.toNatClampNeg < n := Nat.not_le.mp fun q => hin (Or.inr q)
    have hq := gq_ids hv ha
    obtain ⟨q0, -, hq0⟩ := gws_get (E := E) (ad := ad) (I := I) (J := J) hq
    rw [genc_arr ha] at hq0
    refine W.aald (v := .ref (ad (rk, q.2.1, i.toNatClampNeg))) (ty := .array .int) hC.1 hC.2.1 (hS.1.1 q0 _ hq0) ((hE.1.2 5 (gca E 5, .array .int) rfl).1 n (fun j => va_rf (some (ad (rk, q.2.1, j))))) rfl (fun q => by cases q) (by show ¬ (i < 0 ∨ (arrV _ _ _).slots.size ≤ _); rw [arrV_size]; exact hin) (by show (arrV _ _ _).slots[_]? = _; rw [arrV_read _ _ hlt]; rfl) rfl rfl hd ?_
    exact k hc hw p e s m args below meth cc ad0 Bs hC hT H locs LS ad (hS.tk (gvs_c (gV_of (gids_row hq ha hlt)) hdr))
  · rename_i n rk ha
    obtain ⟨hin, k1, k2⟩ := k
    have hlt : i.toNatClampNeg < n := Nat.not_le.mp fun q => hin (Or.inr q)
    have hq := gq_ids hv ha
    obtain ⟨q0, -, hq0⟩ := gws_get (E := E) (ad := ad) (I := I) (J := J) hq
    rw [genc_arr ha] at hq0
    have hbl : Nat.blt i.toNatClampNeg n = true := Nat.ble_eq_true_of_le hlt
    obtain ⟨hr1, hr2⟩ := gall_sts _ _ _ ha
    cases hb : B (rk + i.toNatClampNeg + 17) with
    | true =>
      refine W.aald (v := .ref (ad (6, rk + i.toNatClampNeg, 0))) (ty := .object "ToeplitzLab$State") hC.1 hC.2.1 (hS.1.1 q0 _ hq0) ((hE.1.2 6 (gca E 6, .object "ToeplitzLab$State") rfl).1 n (fun j => va_rf (if Nat.blt j n && B (rk + j + 17) then some (ad (6, rk + j, 0)) else none))) rfl (fun q => by cases q) (by show ¬ (i < 0 ∨ (arrV _ _ _).slots.size ≤ _); rw [arrV_size]; exact hin) (by show (arrV _ _ _).slots[_]? = _; rw [arrV_read _ _ hlt]; simp [hbl, hb, va_rf]) rfl rfl hd ?_
      exact k1 hb hc hw p e s m args below meth cc ad0 Bs hC hT H locs LS ad (hS.tk (gvs_c (gV_of (gids_st (by omega) (hS.1.2.2.2 _ (by omega) (by omega) hb))) hdr))
    | false =>
      refine W.aald (v := .null) (ty := .object "ToeplitzLab$State") hC.1 hC.2.1 (hS.1.1 q0 _ hq0) ((hE.1.2 6 (gca E 6, .object "ToeplitzLab$State") rfl).1 n (fun j => va_rf (if Nat.blt j n && B (rk + j + 17) then some (ad (6, rk + j, 0)) else none))) rfl (fun q => by cases q) (by show ¬ (i < 0 ∨ (arrV _ _ _).slots.size ≤ _); rw [arrV_size]; exact hin) (by show (arrV _ _ _).slots[_]? = _; rw [arrV_read _ _ hlt]; simp [hbl, hb, va_rf]) rfl rfl hd ?_
      exact k2 hb hc hw p e s m args below meth cc ad0 Bs hC hT H locs LS ad (hS.tk (gvs_n hdr))
  · exact absurd k id
theorem gall_n12 : ∀ r ∈ gall, r.2.1 ≤ 12 ∨ 100 ≤ r.2.1 := by decide +kernel
theorem gids_flag {f : Nat} (hf : 13 ≤ f) (hf2 : f < 100) : gids (gUB B f) = gids B := by
  unfold gids
  apply List.filter_congr
  intro r hr
  have h := gall_n12 r hr
  rw [show gUB B f r.2.1 = B r.2.1 from if_neg (by omega)]
theorem gBok_flag {f : Nat} (h : gBok B) (hf : 20 ≤ f) (hB : B (f - 17) = true) : gBok (gUB B f) := by
  intro n h1 h2 h3
  unfold gUB at h3 ⊢
  rw [if_neg (by omega)]
  by_cases e : n + 17 = f
  · rw [show f - 17 = n by omega] at hB
    exact hB
  · rw [if_neg e] at h3
    exact h n h1 h2 h3
theorem gLe_UB {f : Nat} : gLe B (gUB B f) := fun n h => by
  unfold gUB
  split
  · rfl
  · exact h
theorem gLe.tr {B1 B2 B3 : gB} (h1 : gLe B1 B2) (h2 : gLe B2 B3) : gLe B1 B3 := fun n h => h2 n (h1 n h)
theorem gids_le {B1 B2 : gB} (h : gLe B1 B2) {q : gR} (hq : q ∈ gids B1) : q ∈ gids B2 := by
  obtain ⟨h1, h2⟩ := List.mem_filter.mp hq
  refine List.mem_filter.mpr ⟨h1, ?_⟩
  rcases Bool.or_eq_true_iff.mp h2 with h3 | h3
  · simp only [h3, Bool.true_or]
  · simp only [h _ h3, Bool.or_true]
theorem gVl_le {B1 B2 : gB} (h : gLe B1 B2) {q : gR} (hq : gVl B1 q) : gVl B2 q := by
  rcases hq with e | e | e | e
  · exact Or.inl e
  · exact Or.inr (Or.inl e)
  · exact Or.inr (Or.inr (Or.inl e))
  · exact Or.inr (Or.inr (Or.inr (gids_le h e)))
theorem gVv_le {B1 B2 : gB} (h : gLe B1 B2) {v : gV} (hv : gVv B1 v) : gVv B2 v := by
  cases v with
  | inl _ => trivial
  | inr q => exact gVl_le h hv
theorem gp_aastore {q v : gR} {i : Int32} (hd : decode (hb y) pc = .ok (.aastore, 1)) (k : gaas B q v i fun B2 => gG E y (pc + 1) ls r I J B2 c w Q X) : gG E y pc ls (.inr v :: .inl (.int i) :: .inr q :: r) I J B c w Q X := by
  intro hc hw p e s m args below meth cc ad0 Bs hC hT H locs LS ad hS
  have hv := gvs_h (gvs_d (gvs_d hS.vs))
  have hvv := gvs_h hS.vs
  have hdr := gvs_d (gvs_d (gvs_d hS.vs))
  have hE := hC.2.2.2.2.2.2.2
  unfold gaas at k
  split at k
  · rename_i n rk ha
    obtain ⟨hin, rfl, k⟩ := k
    have hlt : i.toNatClampNeg < n := Nat.not_le.mp fun q => hin (Or.inr q)
    have hq := gq_ids hv ha
    obtain ⟨q0, hq1, hq0⟩ := gws_get (E := E) (ad := ad) (I := I) (J := J) hq
    rw [genc_arr ha] at hq0
    obtain ⟨hr1, hr2⟩ := gall_sts _ _ _ ha
    have hvi : (6, rk + i.toNatClampNeg, 0) ∈ gids B := gV_ids hvv (show (3 : Nat) ≤ 6 by decide)
    have hBm : B (rk + i.toNatClampNeg) = true := by
      have h2 := (List.mem_filter.mp hvi).2
      rcases Bool.or_eq_true_iff.mp h2 with h3 | h3
      · have : rk + i.toNatClampNeg < 3 := Nat.le_of_ble_eq_true h3
        omega
      · exact h3
    obtain ⟨qk, -, hqk⟩ := gws_get (E := E) (ad := ad) (I := I) (J := J) hvi
    rw [genc_obj (ci := 6) rfl] at hqk
    have hf : 13 ≤ rk + i.toNatClampNeg + 17 := by omega
    refine va_astq (r := (RX6, TX6, 11)) (ci := 6) hC.1 hC.2.1 hE.1 hS.1.1 hS.1.2.1 hS.2.1 q0 6 qk hq0 rfl hqk rfl hin hd (fun H1 locs1 hP hD hS1 => ?_)
    have hR := gRep.put (I2 := I) (J2 := J) (B2 := gUB B (rk + i.toNatClampNeg + 17)) hS.1 hq1 (gids_flag hf (by omega)) (gBok_flag hS.1.2.2.2 (by omega) (by rw [show rk + i.toNatClampNeg + 17 - 17 = rk + i.toNatClampNeg by omega]; exact hBm)) ?_ ?_ hP hD
    · exact k hc hw p e s m args below meth cc ad0 Bs hC hT H1 locs1 LS ad ⟨hR, hS1, hS.2.2.1, hS.2.2.2.1, hS.2.2.2.2.1.tr gLe_UB, fun z hz => gVv_le gLe_UB (hS.2.2.2.2.2.1 z hz), fun z hz => gVv_le gLe_UB (hdr z hz)⟩
    · rw [genc_arr ha]
      unfold garrE
      simp only
      congr 7
      funext j
      unfold va_up gUB
      by_cases hj : j = i.toNatClampNeg
      · subst hj
        rw [if_pos rfl, if_pos rfl, show Nat.blt i.toNatClampNeg n = true from Nat.ble_eq_true_of_le hlt]
        rfl
      · rw [if_neg hj, if_neg (show ¬ rk + j + 17 = rk + i.toNatClampNeg + 17 by omega)]
    · intro r2 h2 hne
      refine genc_cong (gids_all h2) rfl (fun _ => rfl) ?_
      intro n2 rk2 ha2 j hj
      unfold gUB
      rw [if_neg]
      intro e
      obtain ⟨g1, g2⟩ := gall_sts _ _ _ ha2
      have hk : r2.1 = q.1 := by
        have key : ∀ k k2 n n2 rk rk2 : Nat, garr k = some (6, n, rk) → garr k2 = some (6, n2, rk2) → ∀ j i, j < n2 → i < n → rk2 + j + 17 = rk + i + 17 → k2 = k := by
          intro k k2 n n2 rk rk2 h1 h2
          unfold garr at h1 h2
          split at h1 <;> cases h1 <;> split at h2 <;> cases h2 <;> intro j i h3 h4 h5 <;> first | rfl | omega
        exact key _ _ _ _ _ _ ha ha2 _ _ hj hlt e
      have key2 : ∀ r ∈ gall, ∀ r2 ∈ gall, (garr r.1).map (fun z => z.1) = some 6 → r2.1 = r.1 → r2 = r := by decide +kernel
      exact hne (key2 q (gids_all hq) r2 (gids_all h2) (by rw [ha]; rfl) hk)
  · exact absurd k id
end GH
end
section
/-! ===== copies, ends, throws, calls ===== -/
section GH
variable {E : gEn} {y pc : Nat} {ls : List (Nat × gV)} {st r : List gV} {I : gI} {J : gJ} {B : gB} {c w : Nat} {Q : gQt} {X : gXt}
theorem gcpI_ne {s d : gR} {sp dp n a b e : Nat} (h : (a, b, e) ≠ d) : gcpI I s d sp dp n a b e = I a b e := by
  funext j
  unfold gcpI
  rw [if_neg]
  rintro ⟨h1, h2, h3⟩
  exact h (Prod.ext h1 (Prod.ext h2 h3))
theorem gcpI_eq {s d : gR} {sp dp n : Nat} : gcpI I s d sp dp n d.1 d.2.1 d.2.2 = va_cpy (I s.1 s.2.1 s.2.2) (I d.1 d.2.1 d.2.2) sp dp n := by
  funext j
  unfold gcpI
  rw [if_pos ⟨rfl, rfl, rfl⟩]
theorem gcpJ_ne {s d : gR} {sp dp n a b : Nat} (h : ¬ (a = d.1 ∧ b = d.2.1)) : gcpJ J s d sp dp n a b = J a b := by
  funext j
  unfold gcpJ
  rw [if_neg h]
theorem gcpJ_eq {s d : gR} {sp dp n : Nat} : gcpJ J s d sp dp n d.1 d.2.1 = va_cpy (J s.1 s.2.1) (J d.1 d.2.1) sp dp n := by
  funext j
  unfold gcpJ
  rw [if_pos ⟨rfl, rfl⟩]
theorem gsum_cv (ad : gR → Nat) (st : List gV) : ((st.map (gcv ad)).map fun v => v.category).sum = gsum st := by
  unfold gsum
  rw [List.map_map]
  congr 1
  apply List.map_congr_left
  intro v _
  exact gcat_cv ad v
theorem gp_copy {n : Nat} {s0 d : gR} {sp dp k0 : Int32} (hd : decode (hb y) pc = .ok (.invokestatic n, 3)) (hl : Cond.methodLink (hy y).cls n arraycopyName ∈ gBig ∧ Cond.native arraycopyName ∈ gBig ∧ Cond.static arraycopyName ∈ gBig ∧ Cond.initialized "java/lang/System" ∈ gBig) (hfc : 1 ≤ hfr y) (hlc : 26 ≤ hlo y) (hsm : gsum r ≤ 8)
    (k : gcpy I J s0 d sp dp k0 fun I2 J2 => gG E y (pc + 3) ls r I2 J2 B c w Q X) : gG E y pc ls (.inl (.int k0) :: .inl (.int dp) :: .inr d :: .inl (.int sp) :: .inr s0 :: r) I J B c w Q X := by
  intro hc hw p e s m args below meth cc ad0 Bs hC hT H locs LS ad hS
  have hvd := gvs_h (gvs_d (gvs_d hS.vs))
  have hvs := gvs_h (gvs_d (gvs_d (gvs_d (gvs_d hS.vs))))
  have hdr := gvs_d (gvs_d (gvs_d (gvs_d (gvs_d hS.vs))))
  obtain ⟨hx, hb, hr, hml, hown, hts, hlk, hE⟩ := id hC
  obtain ⟨l1, l2, l3, l4⟩ := hl
  have hroom : (((r.map (gcv ad)).map fun v => v.category).sum + (nativeFrameWords "java/lang/System" "arraycopy" 5 + 11)) ≤ (hrm y).locals := by
    rw [gsum_cv]
    show gsum r + (nativeFrameWords "java/lang/System" "arraycopy" 5 + 11) ≤ hlo y
    have : nativeFrameWords "java/lang/System" "arraycopy" 5 = 7 := by decide +kernel
    omega
  unfold gcpy at k
  split at k
  · rename_i n0 r0 n1 r1 ha0 ha1
    obtain ⟨⟨h1, h2, h3, h4, h5, h6⟩, k⟩ := k
    obtain ⟨q0, -, hq0⟩ := gws_get (E := E) (ad := ad) (I := I) (J := J) (gq_ids hvs ha0)
    obtain ⟨q1, hq11, hq1⟩ := gws_get (E := E) (ad := ad) (I := I) (J := J) (gq_ids hvd ha1)
    rw [genc_arr ha0] at hq0
    rw [genc_arr ha1] at hq1
    refine va_copyi hx hb (hml.trans hS.2.2.1.1.symm) hown (hts _ l1) (hts _ l2) (hts _ l3) (hts _ l4) hE.1 hS.1.1 hS.1.2.1 hS.2.1 q0 q1 0 0 hq0 hq1 rfl rfl rfl h1 h2 h3 h4 h5 (fun _ _ => rfl) hfc hroom hd (fun H1 locs1 hP hD hS1 => ?_)
    refine k hc hw p e s m args below meth cc ad0 Bs hC hT H1 locs1 LS ad (hS.ht (gRep.put hS.1 hq11 rfl hS.1.2.2.2 ?_ ?_ hP hD) hS1 hdr)
    · rw [genc_arr ha1]
      unfold garrE
      simp only
      rw [gcpI_eq]
    · intro r2 hr2 hne
      exact genc_cong (gids_all hr2) (gcpI_ne hne) (fun _ => rfl) (fun _ _ _ _ _ => rfl)
  · rename_i n0 r0 n1 r1 ha0 ha1
    obtain ⟨⟨h1, h2, h3, h4, h5, h6⟩, k⟩ := k
    have hqd := gq_ids hvd ha1
    obtain ⟨q0, -, hq0⟩ := gws_get (E := E) (ad := ad) (I := I) (J := J) (gq_ids hvs ha0)
    obtain ⟨q1, hq11, hq1⟩ := gws_get (E := E) (ad := ad) (I := I) (J := J) hqd
    rw [genc_arr ha0] at hq0
    rw [genc_arr ha1] at hq1
    refine va_copyl hx hb (hml.trans hS.2.2.1.1.symm) hown (hts _ l1) (hts _ l2) (hts _ l3) (hts _ l4) hE.1 hS.1.1 hS.1.2.1 hS.2.1 q0 q1 1 1 hq0 hq1 rfl rfl rfl h1 h2 h3 h4 h5 (fun _ _ => rfl) hfc hroom hd (fun H1 locs1 hP hD hS1 => ?_)
    refine k hc hw p e s m args below meth cc ad0 Bs hC hT H1 locs1 LS ad (hS.ht (gRep.put hS.1 hq11 rfl hS.1.2.2.2 ?_ ?_ hP hD) hS1 hdr)
    · rw [genc_arr ha1]
      unfold garrE
      simp only
      rw [gcpJ_eq]
    · intro r2 hr2 hne
      refine genc_cong (gids_all hr2) rfl (fun h => gcpJ_ne ?_) (fun _ _ _ _ _ => rfl)
      rintro ⟨e1, e2⟩
      have z1 : d.2.2 = 0 := by
        rcases gall_i0 d (gids_all hqd) with h | ⟨h, h'⟩
        · exact h
        · rw [ha1] at h'; exact absurd h' (by simp)
      have z2 : r2.2.2 = 0 := by
        rcases gall_i0 r2 (gids_all hr2) with h3 | ⟨h3, h'⟩
        · exact h3
        · rcases h with h | h
          · exact absurd h3 h
          · exact absurd h' h
      exact hne (Prod.ext e1 (Prod.ext e2 (z2.trans z1.symm)))
  · exact absurd k id
/-! ends -/
theorem gfree {E : gEn} {s : State} {H : Heap} {locs : List Loc} (h : va_S (gA E) s.heap H locs) : ∀ q ∈ locs, gA E q.base := h.2.2
theorem gQ_of {ad0 ad : gR → Nat} {Bs : gB} {s t : State} {H : Heap} {locs : List Loc} {v : gV} {args : Array Value} (hR : gRep E ad I J B H) (hS : va_S (gA E) s.heap H locs) (hx : gExt ad0 Bs ad) (hle : gLe Bs B) (hv : gVv B v) (hq : Q v I J B) (ht : t.heap = H) : gQc E y ad0 Bs Q args s (.returned (gout y ad v)) t := ⟨⟨v, I, J, B, ad, rfl, hq, by rw [ht]; exact hR, hx, hle, hv⟩, hS.F ht⟩
theorem gp_ireturn {x : Int32} (hd : decode (hb y) pc = .ok (.ireturn, 1)) (hr : hr y = some .int) (k : Q (.inl (.int x)) I J B) : gG E y pc ls [.inl (.int x)] I J B c w Q X := by
  intro hc hw p e s m args below meth cc ad0 Bs hC hT H locs LS ad hS
  refine vx_ret (W.widen hc hw ?_)
  refine W.iret (v := x) hC.1 hC.2.1 (hC.2.2.1.trans hr) (fun t ht hW => ?_) (gfree hS.2.1) hd hC.2.2.2.2.2.2.1
  have h := gQ_of (y := y) (args := args) (v := .inl (.int x)) hS.1 hS.2.1 hS.2.2.2.1 hS.2.2.2.2.1 trivial k ht
  unfold gout at h
  rw [hr] at h
  exact h
theorem gp_zreturn {x : Int32} {ty : FieldType} (hd : decode (hb y) pc = .ok (.ireturn, 1)) (hr : hr y = some ty) (hn : narrow ty (.int x) = .int x) (k : Q (.inl (.int x)) I J B) : gG E y pc ls [.inl (.int x)] I J B c w Q X := by
  intro hc hw p e s m args below meth cc ad0 Bs hC hT H locs LS ad hS
  refine vx_ret (W.widen hc hw ?_)
  refine W.zret (v := x) hC.1 hC.2.1 (hC.2.2.1.trans hr) hn (fun t ht hW => ?_) (gfree hS.2.1) hd hC.2.2.2.2.2.2.1
  have h := gQ_of (y := y) (args := args) (v := .inl (.int x)) hS.1 hS.2.1 hS.2.2.2.1 hS.2.2.2.2.1 trivial k ht
  unfold gout at h
  rw [hr] at h
  exact h
theorem gp_lreturn {x : Int64} (hd : decode (hb y) pc = .ok (.lreturn, 1)) (hr : hr y = some .long) (k : Q (.inl (.long x)) I J B) : gG E y pc ls [.inl (.long x)] I J B c w Q X := by
  intro hc hw p e s m args below meth cc ad0 Bs hC hT H locs LS ad hS
  refine vx_ret (W.widen hc hw ?_)
  refine W.lret (v := x) hC.1 hC.2.1 (hC.2.2.1.trans hr) (fun t ht hW => ?_) (gfree hS.2.1) hd hC.2.2.2.2.2.2.1
  have h := gQ_of (y := y) (args := args) (v := .inl (.long x)) hS.1 hS.2.1 hS.2.2.2.1 hS.2.2.2.2.1 trivial k ht
  unfold gout at h
  rw [hr] at h
  exact h
theorem gp_dreturn {x : UInt64} (hd : decode (hb y) pc = .ok (.dreturn, 1)) (hr : hr y = some .double) (k : Q (.inl (.double x)) I J B) : gG E y pc ls [.inl (.double x)] I J B c w Q X := by
  intro hc hw p e s m args below meth cc ad0 Bs hC hT H locs LS ad hS
  refine vx_ret (W.widen hc hw ?_)
  refine W.dret (v := x) hC.1 hC.2.1 (hC.2.2.1.trans hr) (fun t ht hW => ?_) (gfree hS.2.1) hd hC.2.2.2.2.2.2.1
  have h := gQ_of (y := y) (args := args) (v := .inl (.double x)) hS.1 hS.2.1 hS.2.2.2.1 hS.2.2.2.2.1 trivial k ht
  unfold gout at h
  rw [hr] at h
  exact h
theorem gp_vreturn (hd : decode (hb y) pc = .ok (.return_, 1)) (hr : hr y = none) (k : Q (.inl .null) I J B) : gG E y pc ls [] I J B c w Q X := by
  intro hc hw p e s m args below meth cc ad0 Bs hC hT H locs LS ad hS
  refine vx_ret (W.widen hc hw ?_)
  refine W.vret hC.1 hC.2.1 (hC.2.2.1.trans hr) (fun t ht hW => ?_) (gfree hS.2.1) hd hC.2.2.2.2.2.2.1
  have h := gQ_of (y := y) (args := args) (v := .inl .null) hS.1 hS.2.1 hS.2.2.2.1 hS.2.2.2.2.1 trivial k ht
  unfold gout at h
  rw [hr] at h
  exact h
theorem gp_areturn {v : gV} {C : String} (hd : decode (hb y) pc = .ok (.areturn, 1)) (hr : hr y = some (.object C)) (hv : v = .inl .null ∨ ∃ q, v = .inr q) (k : Q v I J B) : gG E y pc ls [v] I J B c w Q X := by
  intro hc hw p e s m args below meth cc ad0 Bs hC hT H locs LS ad hS
  refine vx_ret (W.widen hc hw ?_)
  refine W.aret (v := gcv ad v) hC.1 hC.2.1 (hC.2.2.1.trans hr) (Or.inl ⟨C, rfl⟩) ?_ (fun t ht hW => ?_) (gfree hS.2.1) hd hC.2.2.2.2.2.2.1
  · rcases hv with rfl | ⟨q, rfl⟩
    · exact Or.inl rfl
    · exact Or.inr ⟨_, rfl⟩
  · have h := gQ_of (y := y) (args := args) (v := v) hS.1 hS.2.1 hS.2.2.2.1 hS.2.2.2.2.1 (gvs_h hS.vs) k ht
    unfold gout at h
    rw [hr] at h
    exact h
end GH
end
section
/-! ===== throws and calls ===== -/
theorem gNst_tab : ∀ w ∈ gNst, w.onTables = true := by decide +kernel
section GH
variable {E : gEn} {y pc : Nat} {ls : List (Nat × gV)} {st r : List gV} {I : gI} {J : gJ} {B : gB} {c w : Nat} {Q : gQt} {X : gXt}
theorem gRep.kept {ad : gR → Nat} {H H1 : Heap} (h : gRep E ad I J B H) (hq : ∀ q : Nat, q < H.size → H1[q]? = H[q]?) : gRep E ad I J B H1 :=
  ⟨h.1.kept (fun k q hk => hq q.1 (h.1 k q hk).lt), h.2⟩
def gnames : List String := ["java/lang/RuntimeException", "java/lang/Exception"]
/-- what a throw's numbers in the pool name -/
def gThr (own : String) (ik is ic k : Nat) : Prop :=
  Cond.classLink own ik (gxn k) ∈ gBig ∧ Cond.initialized (gxn k) ∈ gBig ∧ (∃ tx, (own, is, tx) ∈ gTxt) ∧ (∀ w ∈ vx_atS own ic (gxn k) gnames, w ∈ gBig ∨ w ∈ gNst) ∧
  (∀ w ∈ Cond.classLink own ik (gxn k) :: Cond.initialized (gxn k) :: vx_atS own ic (gxn k) gnames, vx_ot w = true) ∧ Bundle.fit (gxn k) = true ∧ (∀ n ∈ gnames, Bundle.fit n = true) ∧ k < 3
theorem gp_throw {ik is ic k : Nat} (d0 : decode (hb y) pc = .ok (.new ik, 3)) (d3 : decode (hb y) (pc + 3) = .ok (.dup, 1)) (d4 : decode (hb y) (pc + 4) = .ok (.ldc is, 2)) (d6 : decode (hb y) (pc + 6) = .ok (.invokespecial ic, 3)) (d9 : decode (hb y) (pc + 9) = .ok (.athrow, 1))
    (hl : gThr (hy y).cls ik is ic k) (ht : hht y = []) (hfc : 5 < hfr y) (hlc : 82 ≤ hlo y) (hr1 : c + 1 ≤ hmc y) (hr2 : w + 6 ≤ hms y) (kx : X k I J B) : gG E y pc ls [] I J B c w Q X := by
  intro hc hw p e s m args below meth cc ad0 Bs hC hT H locs LS ad hS
  obtain ⟨hx, hb, hr, hml, hown, hts, hlk, hE⟩ := id hC
  obtain ⟨l1, l2, ⟨tx, l3⟩, l4, l5, l6, l7, l8⟩ := hl
  have hTx := hE.2.2.2.2.2.2.2.2.2.2.1 _ l3
  obtain ⟨sa, hsa⟩ := hTx
  have hU := hE.2.2.1
  have hN := hE.2.2.2.1
  have htr : (gl E).stackTraces = false := hE.2.2.2.2.2.2.2.2.2.2.2.2.2.2.2.2.1
  refine vx_throwS (names := gnames) (text := tx) (sa := sa) hx hb htr hown l6 l7 (hts _ l1) (hts _ l2) hsa (fun w hw => ?_) l5 hU hN hS.2.1 (hS.2.2.1.1.trans hml.symm) d0 d3 d4 d6 d9 ?_ hfc ?_ hr1 hr2 hlk ?_ (gfree hS.2.1) hr1 hr2
  · rcases l4 w hw with h | h
    · exact hts _ h
    · exact va_Nw.use (gNst_tab w h) (hE.2.1 _ h)
  · intro x hx
    rw [hT, ht] at hx
    cases hx
  · show 0 + 82 ≤ hlo y
    omega
  · intro t ht hz hq
    exact ⟨⟨k, I, J, B, ad, ⟨l8, rfl⟩, kx, hS.1.kept hq, hS.2.2.2.1, hS.2.2.2.2.1⟩, Nat.le_trans hS.2.1.1 hz, fun q h1 h2 => (hq q (Nat.lt_of_lt_of_le h1 hS.2.1.1)).trans (hS.2.1.2.1 q h1 h2)⟩
theorem gp_throwW {ik is ic k : Nat} (d0 : decode (hb y) pc = .ok (.new ik, 3)) (d3 : decode (hb y) (pc + 3) = .ok (.dup, 1)) (d4 : decode (hb y) (pc + 4) = .ok (.ldc_w is, 3)) (d6 : decode (hb y) (pc + 7) = .ok (.invokespecial ic, 3)) (d9 : decode (hb y) (pc + 10) = .ok (.athrow, 1))
    (hl : gThr (hy y).cls ik is ic k) (ht : hht y = []) (hfc : 5 < hfr y) (hlc : 82 ≤ hlo y) (hr1 : c + 1 ≤ hmc y) (hr2 : w + 6 ≤ hms y) (kx : X k I J B) : gG E y pc ls [] I J B c w Q X := by
  intro hc hw p e s m args below meth cc ad0 Bs hC hT H locs LS ad hS
  obtain ⟨hx, hb, hr, hml, hown, hts, hlk, hE⟩ := id hC
  obtain ⟨l1, l2, ⟨tx, l3⟩, l4, l5, l6, l7, l8⟩ := hl
  have hTx := hE.2.2.2.2.2.2.2.2.2.2.1 _ l3
  obtain ⟨sa, hsa⟩ := hTx
  have hU := hE.2.2.1
  have hN := hE.2.2.2.1
  have htr : (gl E).stackTraces = false := hE.2.2.2.2.2.2.2.2.2.2.2.2.2.2.2.2.1
  refine vx_throwSW (names := gnames) (text := tx) (sa := sa) hx hb htr hown l6 l7 (hts _ l1) (hts _ l2) hsa (fun w hw => ?_) l5 hU hN hS.2.1 (hS.2.2.1.1.trans hml.symm) d0 d3 d4 d6 d9 ?_ hfc ?_ hr1 hr2 hlk ?_ (gfree hS.2.1) hr1 hr2
  · rcases l4 w hw with h | h
    · exact hts _ h
    · exact va_Nw.use (gNst_tab w h) (hE.2.1 _ h)
  · intro x hx
    rw [hT, ht] at hx
    cases hx
  · show 0 + 82 ≤ hlo y
    omega
  · intro t ht hz hq
    exact ⟨⟨k, I, J, B, ad, ⟨l8, rfl⟩, kx, hS.1.kept hq, hS.2.2.2.1, hS.2.2.2.2.1⟩, Nat.le_trans hS.2.1.1 hz, fun q h1 h2 => (hq q (Nat.lt_of_lt_of_le h1 hS.2.1.1)).trans (hS.2.1.2.1 q h1 h2)⟩
end GH
end
section
section GH
variable {E : gEn} {y y2 pc : Nat} {ls : List (Nat × gV)} {st r : List gV} {I : gI} {J : gJ} {B : gB} {c w : Nat} {Q : gQt} {X : gXt}
theorem gBig_good {w : Cond} (h : w ∈ gBig) : (w.onTables && w.keeps) = true ∨ ∃ ty, w = .arrayClass ty := good_of_word (List.mem_filter.mp h).2
theorem gPc_blind {av : List Value} {ad : gR → Nat} : FrameBlind (va_Pc av (fun U => gEv E U U.heap ∧ gRep E ad I J B U.heap)) := by
  intro a U g mk h
  obtain ⟨h1, h2, h3⟩ := h
  refine ⟨h1, ?_, h3⟩
  exact gEv.to (U := U.calling g mk a) (H1 := U.heap) (State.WarmedH.refl U) h2 (Nat.le_refl _) (fun _ _ _ => rfl)
theorem gPc_at {s U : State} {H : Heap} {locs : List Loc} {ad : gR → Nat} (hE : gEv E s s.heap) (hS : va_S (gA E) s.heap H locs) (hR : gRep E ad I J B H) (hU : U.heap = H) (hW : s.WarmedH U.vm) : gEv E U U.heap ∧ gRep E ad I J B U.heap := by
  rw [hU]
  exact ⟨hE.to hW hS.1 hS.2.1, hR⟩
/-- what goes on the caller's stack -/
def gpush (y2 : Nat) (v : gV) (r : List gV) : List gV := match hr y2 with
  | none => r
  | some _ => v :: r
theorem gpush_cv {ad : gR → Nat} {v : gV} : (gout y2 ad v).toList ++ r.map (gcv ad) = (gpush y2 v r).map (gcv ad) := by
  unfold gout gpush
  cases hr y2 <;> rfl
/-- thrown over this frame -/
def gGx (E : gEn) (y pc : Nat) (ls : List (Nat × gV)) (k : Nat) (I : gI) (J : gJ) (B : gB) (c w : Nat) (Q : gQt) (X : gXt) : Prop :=
  c ≤ hmc y → w ≤ hms y → ∀ (p : Program) (e : Env) (s : State) (m : MethodId) (args : Array Value) (below : List Frame) (meth : Method) (cc : Code) (ad0 : gR → Nat) (Bs : gB), gCx E y p e s m args below meth cc → cc.exceptionTable.toList = tableOf (hht y) →
    ∀ (H : Heap) (locs : List Loc) (LS : Array Slot) (ad : gR → Nat), gSt E y ad0 Bs s H locs LS ad ls [] I J B → ∀ (q : Addr) (ce : Cell) (rest : List Value), H[q]? = some ce → ce.vm = .none → s.vm.findClass (gxn k) = some ce.cls →
      vx_W p (gl E) e (hrm y) s m args below meth cc H locs c w (vx_MQ below (gQc E y ad0 Bs Q) (gXc E ad0 Bs X) args s (hmc y) (hms y) (gA E)) (F0 m pc LS rest) q
theorem gvs_cv {ad ad2 : gR → Nat} (hx : gExt ad B ad2) (hv : ∀ v ∈ st, gVv B v) : st.map (gcv ad2) = st.map (gcv ad) := by
  apply List.map_congr_left
  intro v h
  cases v with
  | inl u => rfl
  | inr q => exact congrArg Value.ref (hx q (hv _ h))
theorem gls_cv {ad ad2 : gR → Nat} (hx : gExt ad B ad2) (hv : ∀ q ∈ ls, gVv B q.2) : ls.map (gcp ad2) = ls.map (gcp ad) := by
  apply List.map_congr_left
  intro q h
  obtain ⟨a, v⟩ := q
  cases v with
  | inl u => rfl
  | inr q => exact Prod.ext rfl (congrArg Value.ref (hx q (hv _ h)))
/-- behind a run of a callee -/
theorem g_run {p : Program} {e : Env} {s : State} {m : MethodId} {args a2 : Array Value} {below : List Frame} {meth : Method} {cc : Code} {ad0 : gR → Nat} {Bs : gB} {H : Heap} {locs : List Loc} {LS : Array Slot} {ad : gR → Nat} {st0 : List Value} {Q2 : gQt} {X2 : gXt}
    (hc2 : c + hmc y2 ≤ hmc y) (hw2 : w + hms y2 ≤ hms y) (hC : gCx E y p e s m args below meth cc) (hT : cc.exceptionTable.toList = tableOf (hht y)) (hS : gSt E y ad0 Bs s H locs LS ad ls st I J B) (hr2 : ∀ v ∈ r, gVv B v)
    (hrun : vx_Run p (gl E) e (hrm y) s m args below meth cc H locs c w (hmc y2) (hms y2) (F0 m pc LS st0) (r.map (gcv ad)) (gQc E y2 ad B Q2 a2) (gXc E ad B X2) (gA E))
    (kk : ∀ v I2 J2 B2, Q2 v I2 J2 B2 → gG E y (pc + 3) ls (gpush y2 v r) I2 J2 B2 (c + hmc y2) (w + hms y2) Q X)
    (kx : ∀ k I2 J2 B2, k < 3 → X2 k I2 J2 B2 → gGx E y pc ls k I2 J2 B2 (c + hmc y2) (w + hms y2) Q X) :
    W p (gl E) e (hrm y) s m args below meth cc H locs c w (vx_MQ below (gQc E y ad0 Bs Q) (gXc E ad0 Bs X) args s (hmc y) (hms y) (gA E)) (F0 m pc LS st0) := by
  intro T hTT Xs
  rcases hrun T hTT Xs with ⟨v, st₀, t, T', L, h0, X', hL, e1, e2, ⟨⟨v0, I2, J2, B2, ad2, hv, hq, hR, hx, hle, hvv⟩, hF⟩, stp⟩ | ⟨q, st₀, t, T', L, En, ce, h0, X', hL, e1, e2, ⟨⟨k, I2, J2, B2, ad2, ⟨hk, hkE⟩, hq, hR, hx, hle⟩, hF⟩, hce, hcv, hcl, stp⟩
  · cases hv
    obtain ⟨k1, k2, k3⟩ := vx_keep h0 e1 hS.2.1 (fun _ _ h => h) (fun _ h => h) hL hF
    have hSt : gSt E y ad0 Bs s T'.heap (locs ++ L) LS ad2 ls (gpush y2 v0 r) I2 J2 B2 := by
      refine ⟨by rw [e1]; exact hR, k3, ?_, fun q h => (hx q (gVl_le hS.2.2.2.2.1 h)).trans (hS.2.2.2.1 q h), hS.2.2.2.2.1.tr hle, fun q hq => gVv_le hle (hS.2.2.2.2.2.1 q hq), ?_⟩
      · rw [gls_cv hx hS.2.2.2.2.2.1]
        exact hS.2.2.1
      · unfold gpush
        cases hr y2 with
        | none => exact fun v h => gVv_le hle (hr2 v h)
        | some _ => exact gvs_c hvv (fun v h => gVv_le hle (hr2 v h))
    have hW := kk v0 I2 J2 B2 hq hc2 hw2 p e s m args below meth cc ad0 Bs hC hT T'.heap (locs ++ L) LS ad2 hSt
    rw [← gpush_cv, gvs_cv hx hr2] at hW
    obtain ⟨t2, a1, b1⟩ := hW T' rfl X'
    exact ⟨t2, stp t2 a1, b1⟩
  · obtain ⟨k1, k2, k3⟩ := vx_keep h0 e1 hS.2.1 (fun _ _ h => h) (fun _ h => h) hL hF
    have hSt : gSt E y ad0 Bs s T'.heap (locs ++ L) LS ad2 ls [] I2 J2 B2 := by
      refine ⟨by rw [e1]; exact hR, k3, ?_, fun q h => (hx q (gVl_le hS.2.2.2.2.1 h)).trans (hS.2.2.2.1 q h), hS.2.2.2.2.1.tr hle, fun q hq => gVv_le hle (hS.2.2.2.2.2.1 q hq), fun v h => by cases h⟩
      rw [gls_cv hx hS.2.2.2.2.2.1]
      exact hS.2.2.1
    have hW := kx k I2 J2 B2 hk hq hc2 hw2 p e s m args below meth cc ad0 Bs hC hT T'.heap (locs ++ L) LS ad2 hSt q ce (r.map (gcv ad)) (by rw [e1]; exact hce) hcv (by rw [hkE]; exact hcl)
    obtain ⟨t2, a1, b1⟩ := hW T' rfl X'
    exact ⟨t2, stp.trans a1, b1⟩
/-- what a call needs of its callee -/
def gCe (y2 n : Nat) : Prop := (hy y2).cls ≠ "java/lang/invoke/MethodHandle" ∧ (hy y2).cls ≠ "java/lang/invoke/VarHandle" ∧ (parseMethodDescriptor (hy y2).desc).map (fun d => d.parameters.length) = some n
def gRm (y y2 : Nat) : Prop := hfr y2 + 1 ≤ hfr y ∧ 8 + (hml y2 + 11) + hlo y2 ≤ hlo y
theorem gGood_hws (h : hht y2 = []) (hc : Cond.code (hy y2) (hb y2) (hml y2) (hr y2) ∈ gBig) : GoodIn gBig (hws y2) := by
  intro u hu
  unfold hws hcw at hu
  rw [h] at hu
  rcases List.mem_cons.mp hu with rfl | hu
  · exact ⟨hc, gBig_good hc⟩
  · exact ⟨hu, gBig_good hu⟩
theorem hws_code (h : hht y2 = []) : hws y2 = Cond.code (hy y2) (hb y2) (hml y2) (hr y2) :: gBig := by
  unfold hws hcw
  rw [h]
/-- the words of a call of an instance method -/
def gCV (own : String) (n y2 np : Nat) : Prop := gCe y2 np ∧ hht y2 = [] ∧ Cond.code (hy y2) (hb y2) (hml y2) (hr y2) ∈ gBig ∧ Cond.methodLink own n (hy y2) ∈ gBig ∧ Cond.instanceMethod (hy y2) ∈ gBig ∧ Cond.selects (hy y2).cls (hy y2) (hy y2) ∈ gBig ∧ Cond.initialized (hy y2).cls ∈ gBig
/-- the words of a call of a static one -/
def gCS (own : String) (n y2 np : Nat) : Prop := gCe y2 np ∧ hht y2 = [] ∧ Cond.code (hy y2) (hb y2) (hml y2) (hr y2) ∈ gBig ∧ Cond.methodLink own n (hy y2) ∈ gBig ∧ Cond.static (hy y2) ∈ gBig ∧ Cond.initialized (hy y2).cls ∈ gBig
theorem gp_callV {n np : Nat} {q : gR} {as : List gV} {ci : Nat} {fl : List (Nat × Nat)} {z : vw_C} {Q2 : gQt} {X2 : gXt} (hd : decode (hb y) pc = .ok (.invokevirtual n, 3)) (hl : gCV (hy y).cls n y2 np) (hm : gRm y y2) (hn : as.length = np) (ho : gobj q.1 = some (ci, fl)) (hz : vwCl[ci]? = some z) (hz1 : z.1 = (hy y2).cls)
    (hsm : gsum r ≤ 8) (hc2 : c + hmc y2 ≤ hmc y) (hw2 : w + hms y2 ≤ hms y) (hM : gC E y2 (.inr q :: as) I J B Q2 X2)
    (kk : ∀ v I2 J2 B2, Q2 v I2 J2 B2 → gG E y (pc + 3) ls (gpush y2 v r) I2 J2 B2 (c + hmc y2) (w + hms y2) Q X)
    (kx : ∀ k I2 J2 B2, k < 3 → X2 k I2 J2 B2 → gGx E y pc ls k I2 J2 B2 (c + hmc y2) (w + hms y2) Q X) : gG E y pc ls (as.reverse ++ .inr q :: r) I J B c w Q X := by
  intro hc hw p e s m args below meth cc ad0 Bs hC hT H locs LS ad hS
  obtain ⟨ux, ub, ur, uml, hown, hts, ulk, hE⟩ := id hC
  obtain ⟨⟨e1, e2, e3⟩, l0, l1, l2, l3, l4, l5⟩ := hl
  have hvq : gVv B (.inr q) := hS.vs _ (by simp)
  have hva : ∀ v ∈ (.inr q :: as : List gV), gVv B v := by
    intro v h
    rcases List.mem_cons.mp h with rfl | h
    · exact hvq
    · exact hS.vs v (by simp [h])
  have hvr : ∀ v ∈ r, gVv B v := fun v h => hS.vs v (by simp [h])
  have hq : q ∈ gids B := gV_ids hvq (gobj_k3 ho)
  obtain ⟨q0, -, hq0⟩ := gws_get (E := E) (ad := ad) (I := I) (J := J) hq
  rw [genc_obj ho] at hq0
  have hrecv := va_recv hE.1 hS.1.1 hz hq0
  rw [hz1] at hrecv
  have hgood : GoodIn gBig (wsV (hy y).cls n (hy y2).cls (hy y2) (hws y2)) := by
    intro u hu
    unfold wsV at hu
    rcases List.mem_append.mp hu with hu | hu
    · simp only [List.mem_cons, List.not_mem_nil, or_false] at hu
      rcases hu with rfl | rfl | rfl | rfl
      · exact ⟨l2, gBig_good l2⟩
      · exact ⟨l3, gBig_good l3⟩
      · exact ⟨l4, gBig_good l4⟩
      · exact ⟨l5, gBig_good l5⟩
    · exact gGood_hws l0 l1 u hu
  have cw : CallW (hrm y) s args (hy y).cls (hy y2).cls n (hy y2) (hb y2) (hml y2) (hr y2) (hws y2) (hrm y2) (hmc y2) (hms y2) np := cwV np hts hgood (hws_code l0) rfl rfl ⟨rfl, e1, e2, e3⟩ hm
  have hrun := vx_runV (Ts := gBig) (g := F0 m pc LS ((as.map (gcv ad)).reverse ++ .ref (ad q) :: r.map (gcv ad))) (As := as.map (gcv ad)) (rest := r.map (gcv ad)) (b := ad q) (H := H) (locs := locs) (cells := c) (slots := w) (e := e) (below := below) (meth := meth) ⟨ux, ub, uml, hown, hts⟩ (hM hva ad) cw
    ⟨gPc_blind, hrecv, fun U hU hW => ⟨rfl, gPc_at hE hS.2.1 hS.1 hU hW⟩⟩ rfl (by rw [List.length_map]; exact hn) hS.2.2.1.1 rfl (lv_room (by rw [gsum_cv]; exact hsm)) hd ⟨hc2, hw2⟩
  have key := g_run (y2 := y2) hc2 hw2 hC hT hS hvr hrun kk kx
  rw [List.map_append, List.map_reverse]
  exact key
theorem gp_callT {n np : Nat} {q : gR} {as : List gV} {Q2 : gQt} {X2 : gXt} (hd : decode (hb y) pc = .ok (.invokevirtual n, 3)) (hl : gCV (hy y).cls n y2 np) (hm : gRm y y2) (hn : as.length = np) (ho : q.1 = 2) (hz1 : (hy y2).cls = "java/lang/String")
    (hsm : gsum r ≤ 8) (hc2 : c + hmc y2 ≤ hmc y) (hw2 : w + hms y2 ≤ hms y) (hM : gC E y2 (.inr q :: as) I J B Q2 X2)
    (kk : ∀ v I2 J2 B2, Q2 v I2 J2 B2 → gG E y (pc + 3) ls (gpush y2 v r) I2 J2 B2 (c + hmc y2) (w + hms y2) Q X)
    (kx : ∀ k I2 J2 B2, k < 3 → X2 k I2 J2 B2 → gGx E y pc ls k I2 J2 B2 (c + hmc y2) (w + hms y2) Q X) : gG E y pc ls (as.reverse ++ .inr q :: r) I J B c w Q X := by
  intro hc hw p e s m args below meth cc ad0 Bs hC hT H locs LS ad hS
  obtain ⟨ux, ub, ur, uml, hown, hts, ulk, hE⟩ := id hC
  obtain ⟨⟨e1, e2, e3⟩, l0, l1, l2, l3, l4, l5⟩ := hl
  have hvq : gVv B (.inr q) := hS.vs _ (by simp)
  have hva : ∀ v ∈ (.inr q :: as : List gV), gVv B v := by
    intro v h
    rcases List.mem_cons.mp h with rfl | h
    · exact hvq
    · exact hS.vs v (by simp [h])
  have hvr : ∀ v ∈ r, gVv B v := fun v h => hS.vs v (by simp [h])
  have hq : q.2.1 < 7 ∧ q.2.2 = 0 := by
    rcases hvq with rfl | h | h | h
    · exact absurd ho (by decide)
    · omega
    · exact h.2
    · exact absurd (gall_k3 q (gids_all h)) (by omega)
  have hrecv := vk_recv hE.2.2.2.2.2.2.2.2.2.2.2.2.1 hq.1 hS.2.1
  have had : ad q = gax E (2, q.2.1, 0) := by
    have hqe : q = (2, q.2.1, 0) := Prod.ext ho (Prod.ext rfl hq.2)
    rw [hS.1.2.2.1 q (by omega), hqe]
  rw [← hz1, ← had] at hrecv
  have hgood : GoodIn gBig (wsV (hy y).cls n (hy y2).cls (hy y2) (hws y2)) := by
    intro u hu
    unfold wsV at hu
    rcases List.mem_append.mp hu with hu | hu
    · simp only [List.mem_cons, List.not_mem_nil, or_false] at hu
      rcases hu with rfl | rfl | rfl | rfl
      · exact ⟨l2, gBig_good l2⟩
      · exact ⟨l3, gBig_good l3⟩
      · exact ⟨l4, gBig_good l4⟩
      · exact ⟨l5, gBig_good l5⟩
    · exact gGood_hws l0 l1 u hu
  have cw : CallW (hrm y) s args (hy y).cls (hy y2).cls n (hy y2) (hb y2) (hml y2) (hr y2) (hws y2) (hrm y2) (hmc y2) (hms y2) np := cwV np hts hgood (hws_code l0) rfl rfl ⟨rfl, e1, e2, e3⟩ hm
  have hrun := vx_runV (Ts := gBig) (g := F0 m pc LS ((as.map (gcv ad)).reverse ++ .ref (ad q) :: r.map (gcv ad))) (As := as.map (gcv ad)) (rest := r.map (gcv ad)) (b := ad q) (H := H) (locs := locs) (cells := c) (slots := w) (e := e) (below := below) (meth := meth) ⟨ux, ub, uml, hown, hts⟩ (hM hva ad) cw
    ⟨gPc_blind, hrecv, fun U hU hW => ⟨rfl, gPc_at hE hS.2.1 hS.1 hU hW⟩⟩ rfl (by rw [List.length_map]; exact hn) hS.2.2.1.1 rfl (lv_room (by rw [gsum_cv]; exact hsm)) hd ⟨hc2, hw2⟩
  have key := g_run (y2 := y2) hc2 hw2 hC hT hS hvr hrun kk kx
  rw [List.map_append, List.map_reverse]
  exact key
theorem gp_callS {n np : Nat} {as : List gV} {Q2 : gQt} {X2 : gXt} (hd : decode (hb y) pc = .ok (.invokestatic n, 3)) (hl : gCS (hy y).cls n y2 np) (hm : gRm y y2) (hn : as.length = np)
    (hsm : gsum r ≤ 8) (hc2 : c + hmc y2 ≤ hmc y) (hw2 : w + hms y2 ≤ hms y) (hM : gC E y2 as I J B Q2 X2)
    (kk : ∀ v I2 J2 B2, Q2 v I2 J2 B2 → gG E y (pc + 3) ls (gpush y2 v r) I2 J2 B2 (c + hmc y2) (w + hms y2) Q X)
    (kx : ∀ k I2 J2 B2, k < 3 → X2 k I2 J2 B2 → gGx E y pc ls k I2 J2 B2 (c + hmc y2) (w + hms y2) Q X) : gG E y pc ls (as.reverse ++ r) I J B c w Q X := by
  intro hc hw p e s m args below meth cc ad0 Bs hC hT H locs LS ad hS
  obtain ⟨ux, ub, ur, uml, hown, hts, ulk, hE⟩ := id hC
  obtain ⟨⟨e1, e2, e3⟩, l0, l1, l2, l3, l5⟩ := hl
  have hva : ∀ v ∈ as, gVv B v := fun v h => hS.vs v (by simp [h])
  have hvr : ∀ v ∈ r, gVv B v := fun v h => hS.vs v (by simp [h])
  have hgood : GoodIn gBig (va_wsS (hy y).cls n (hy y2) (hws y2)) := by
    intro u hu
    unfold va_wsS at hu
    rcases List.mem_append.mp hu with hu | hu
    · simp only [List.mem_cons, List.not_mem_nil, or_false] at hu
      rcases hu with rfl | rfl | rfl
      · exact ⟨l2, gBig_good l2⟩
      · exact ⟨l3, gBig_good l3⟩
      · exact ⟨l5, gBig_good l5⟩
    · exact gGood_hws l0 l1 u hu
  have cw := va_cwS (R := hrm y) (s := s) (args := args) (own := (hy y).cls) (index := n) (y := hy y2) (bytes := hb y2) (maxL := hml y2) (ret := hr y2) (mc := hmc y2) (ms := hms y2) (rm := hrm y2) np hts hgood (hws_code l0) rfl rfl ⟨e1, e2, e3⟩ hm
  have hrun := vx_runS (Ts := gBig) (g := F0 m pc LS ((as.map (gcv ad)).reverse ++ r.map (gcv ad))) (As := as.map (gcv ad)) (rest := r.map (gcv ad)) (H := H) (locs := locs) (cells := c) (slots := w) (e := e) (below := below) (meth := meth) ⟨ux, ub, uml, hown, hts⟩ (hM hva ad) cw
    ⟨gPc_blind, fun U hU hW => ⟨rfl, gPc_at hE hS.2.1 hS.1 hU hW⟩⟩ rfl (by rw [List.length_map]; exact hn) hS.2.2.1.1 rfl (lv_room (by rw [gsum_cv]; exact hsm)) hd ⟨hc2, hw2⟩
  have key := g_run (y2 := y2) hc2 hw2 hC hT hS hvr hrun kk kx
  rw [List.map_append, List.map_reverse]
  exact key
end GH
end
section
/-! ===== a static call of a nest mate's method, and of one with a table ===== -/
section GN
variable {p : Program} {l : Launch} {e : Env} {R : Room} {s : State} {m : MethodId} {args : Array Value} {below : List Frame} {meth : Method} {c : Code} {T : State} {locs : List Loc} {cells slots : Nat}
theorem gx_callSN (X : Stand p l e R s m args below meth c T locs cells slots) (hexec : p.tables.exec = Jvm.exec) {own host : String} {index : Nat} {y : MethodName} {bytes : ByteArray} {maxL : Nat} {ret : Option FieldType}
    (hown : s.vm.findClass own = some m.cls) (hlink : (Cond.methodLinkNest own index y host).before args s = true) (hstat : (Cond.static y).before args s = true) (hinit : (Cond.initialized y.cls).before args s = true)
    (hcode : (Cond.code y bytes maxL ret).before args s = true) (hy : y.cls ≠ "java/lang/invoke/MethodHandle" ∧ y.cls ≠ "java/lang/invoke/VarHandle")
    {W9 : Nat} {Pre : Pt → Array Value → Prop} {Post : Pt → Array Value → Option Value → Pt → Prop} {PostX : Pt → Array Value → Addr → Pt → Prop} (hK : vx_Back l R p e below s args y 3 W9 Pre Post PostX)
    {g : JFrame} (hg : g.method = m) (hsize : g.locals.size = c.maxLocals) {argsL rest : List Value} (hlen : ∀ sig, parseMethodDescriptor y.desc = some sig → argsL.length = sig.parameters.length)
    (hstack : g.stack = argsL.reverse ++ rest) (hW : 2 * g.monitorRoom + (rest.map fun v => v.category).sum ≤ W9) (hdg : decode c.code g.pc = .ok (.invokestatic index, 3))
    (hpre : ∀ vm₁, s.WarmedH vm₁ → Pre ⟨T.setVm vm₁, locs, cells, slots⟩ argsL.toArray) :
    (∃ (v : Option Value) (vm₁ : Vm) (B : Pt), s.WarmedH vm₁ ∧ Stand p l e R s m args below meth c B.U B.locs B.cells B.slots ∧ Post ⟨T.setVm vm₁, locs, cells, slots⟩ argsL.toArray v B ∧
      ∀ target, Steps p.tables e below (B.U.setTop { g with pc := g.pc + 3, stack := v.toList ++ rest }) target → Steps p.tables e below (T.setTop g) target) ∨
    (∃ (q : Addr) (vm₁ : Vm) (B : Pt), s.WarmedH vm₁ ∧ Stand p l e R s m args below meth c B.U B.locs B.cells B.slots ∧ PostX ⟨T.setVm vm₁, locs, cells, slots⟩ argsL.toArray q B ∧
      Steps p.tables e below (T.setTop g) ((B.U.setTop { g with stack := rest }).pushFrame (.throwing q))) := by
  obtain ⟨mk, hnamed⟩ := Cond.code_named hcode
  obtain ⟨methM, cM, hmethM, -, -, -, -, -, -, hsigM⟩ := Cond.code_spec hnamed hcode
  have hstatic : methM.isStatic = true := Cond.static_spec hnamed hmethM hstat
  obtain ⟨kP, hkP, -⟩ := className_of_methodNamed hnamed
  have hinitP : kP.init = .initialized := Cond.initialized_spec (findClass_of_methodNamed hnamed) hkP hinit
  obtain ⟨vm₁, X₁, hstep₁⟩ := X.invokestaticNest hexec hown hlink hnamed hmethM hstatic hkP hinitP hy (g := g) hg (argsL := argsL) (rest := rest) (hlen _ hsigM) hstack hdg
  rcases hK m meth c ⟨T.setVm vm₁, locs, cells, slots⟩ { g with stack := rest } (.invokestatic index) mk argsL.toArray X₁ hg hsize hdg hW (X₁.named hnamed) (hpre vm₁ X₁.warmed) with ⟨v, B, X', hpost, hsteps⟩ | ⟨q, B, X', hpost, hsteps⟩
  · exact Or.inl ⟨v, vm₁, B, X₁.warmed, X', hpost, fun target h => hstep₁ _ fun acts => by rw [doInvoke_state]; exact hsteps.trans h⟩
  · exact Or.inr ⟨q, vm₁, B, X₁.warmed, X', hpost, hstep₁ _ fun acts => by rw [doInvoke_state]; exact hsteps⟩
end GN
section GN2
variable {p : Program} {l : Launch} {e : Env} {R : Room} {s : State} {m : MethodId} {args : Array Value} {below : List Frame} {meth : Method} {c : Code} {H : Heap} {locs : List Loc} {cells slots : Nat}
variable {y : MethodName} {bytes cc : ByteArray} {maxL nL mc ms n index : Nat} {ret : Option FieldType} {ws : List Cond} {rm : Room} {Pc : Array Value → State → Prop} {Qc : Array Value → State → Outcome → State → Prop} {XC : String → State → State → Prop} {free : Addr → Prop} {Ts : List Cond} {own host : String} {As rest : List Value} {g : JFrame}
theorem gx_runSN (S : CallFix p m c cc nL s args Ts own) (hM : vx_Met l y ws rm Pc Qc XC mc ms free) (cw : va_CN R s args own index y host bytes maxL ret ws rm mc ms n ∧ (Cond.static y).before args s = true) (hp : PreS s H Pc As)
    (hg : g.method = m) (hn : As.length = n) (hsize : g.locals.size = nL) (hstack : g.stack = As.reverse ++ rest) (hW : 2 * g.monitorRoom + (rest.map fun v => v.category).sum ≤ 8) (hdg : decode cc g.pc = .ok (.invokestatic index, 3)) (hf : cells + mc ≤ R.cells ∧ slots + ms ≤ R.slots) :
    vx_Run p l e R s m args below meth c H locs cells slots mc ms g rest (Qc As.toArray) XC free := by
  obtain ⟨⟨⟨hrc, hrs, hfr, hlo, hws, hcw⟩, hcode, hini, hy, hlen, hl⟩, hstt⟩ := cw
  have hK : vx_Back l R p e below s args y 3 8 (PreOf R mc ms Pc) (PostOf Qc mc ms free) (vx_Post XC mc ms free) := vx_back (bytes := bytes) (maxL := maxL) (ret := ret) hM hp.1 hrc hrs hfr hlo hws hcw (fun a' U hW => word_at hW (Or.inl (by first | rfl | simp [Cond.onTables, Cond.keeps, Cond.steady])) hini)
  obtain ⟨hx, hb, hml, ho, -⟩ := S
  intro T hT X
  rcases gx_callSN X hx (bytes := bytes) (maxL := maxL) (ret := ret) ho hl hstt hini hcode hy hK hg (hsize.trans hml.symm) (argsL := As) (rest := rest) (fun sig h => hn.trans (hlen sig h)) hstack hW (by rw [hb]; exact hdg)
    (fun vm₁ hW₁ => ⟨hf.1, hf.2, hp.2 (T.setVm vm₁) hT hW₁⟩) with ⟨v, vm₁, ⟨U', l2, c2, s2⟩, hW₁, X', ⟨g', mk, t, L, e1, e2, hq, h1, hL, h2, h3⟩, st⟩ | ⟨q, vm₁, ⟨U', l2, c2, s2⟩, hW₁, X', ⟨g', mk, t, L, E, ce, e1, e2, hq, hce, hcv, hcl, h1, hL, h2, h3⟩, st⟩
  · dsimp only [Pt.U, Pt.locs, Pt.cells, Pt.slots] at X' e1 e2 h1 h2 h3 st
    subst h1; subst h2; subst h3
    exact Or.inl ⟨v, (T.setVm vm₁).calling g' mk As.toArray, t, U', L, hT, X', hL, e1, e2, hq, st⟩
  · dsimp only [Pt.U, Pt.locs, Pt.cells, Pt.slots] at X' e1 e2 h1 h2 h3 st hcl
    subst h1; subst h2; subst h3
    exact Or.inr ⟨q, (T.setVm vm₁).calling g' mk As.toArray, t, U', L, E, ce, hT, X', hL, e1, e2, hq, hce, hcv, vx_cls hW₁ hcl, st⟩
end GN2
section GH
variable {E : gEn} {y y2 pc : Nat} {ls : List (Nat × gV)} {st r : List gV} {I : gI} {J : gJ} {B : gB} {c w : Nat} {Q : gQt} {X : gXt}
/-- the words of a call of a nest mate's static one -/
def gCN (own : String) (n y2 np : Nat) : Prop := gCe y2 np ∧ hht y2 = [] ∧ Cond.code (hy y2) (hb y2) (hml y2) (hr y2) ∈ gBig ∧ (∃ host, Cond.methodLinkNest own n (hy y2) host ∈ gNst) ∧ Cond.static (hy y2) ∈ gBig ∧ Cond.initialized (hy y2).cls ∈ gBig
theorem gp_callSN {n np : Nat} {as : List gV} {Q2 : gQt} {X2 : gXt} (hd : decode (hb y) pc = .ok (.invokestatic n, 3)) (hl : gCN (hy y).cls n y2 np) (hm : gRm y y2) (hn : as.length = np)
    (hsm : gsum r ≤ 8) (hc2 : c + hmc y2 ≤ hmc y) (hw2 : w + hms y2 ≤ hms y) (hM : gC E y2 as I J B Q2 X2)
    (kk : ∀ v I2 J2 B2, Q2 v I2 J2 B2 → gG E y (pc + 3) ls (gpush y2 v r) I2 J2 B2 (c + hmc y2) (w + hms y2) Q X)
    (kx : ∀ k I2 J2 B2, k < 3 → X2 k I2 J2 B2 → gGx E y pc ls k I2 J2 B2 (c + hmc y2) (w + hms y2) Q X) : gG E y pc ls (as.reverse ++ r) I J B c w Q X := by
  intro hc hw p e s m args below meth cc ad0 Bs hC hT H locs LS ad hS
  obtain ⟨ux, ub, ur, uml, hown, hts, ulk, hE⟩ := id hC
  obtain ⟨⟨e1, e2, e3⟩, l0, l1, ⟨host, l2⟩, l3, l5⟩ := hl
  have hva : ∀ v ∈ as, gVv B v := fun v h => hS.vs v (by simp [h])
  have hvr : ∀ v ∈ r, gVv B v := fun v h => hS.vs v (by simp [h])
  have cw := va_cnB (R := hrm y) (s := s) (args := args) (own := (hy y).cls) (index := n) (y := hy y2) (bytes := hb y2) (maxL := hml y2) (ret := hr y2) (mc := hmc y2) (ms := hms y2) (rm := hrm y2) np hts (gGood_hws l0 l1) (hws_code l0) rfl rfl (hE.2.1 _ l2) (hts _ l5) ⟨e1, e2, e3⟩ hm
  have hrun := gx_runSN (Ts := gBig) (g := F0 m pc LS ((as.map (gcv ad)).reverse ++ r.map (gcv ad))) (As := as.map (gcv ad)) (rest := r.map (gcv ad)) (H := H) (locs := locs) (cells := c) (slots := w) (e := e) (below := below) (meth := meth) ⟨ux, ub, uml, hown, hts⟩ (hM hva ad) ⟨cw, hts _ l3⟩
    ⟨gPc_blind, fun U hU hW => ⟨rfl, gPc_at hE hS.2.1 hS.1 hU hW⟩⟩ rfl (by rw [List.length_map]; exact hn) hS.2.2.1.1 rfl (lv_room (by rw [gsum_cv]; exact hsm)) hd ⟨hc2, hw2⟩
  have key := g_run (y2 := y2) hc2 hw2 hC hT hS hvr hrun kk kx
  rw [List.map_append, List.map_reverse]
  exact key
/-- the words of a call of a static one with a table -/
def gCX (own : String) (n y2 np : Nat) : Prop := gCe y2 np ∧ hht y2 ≠ [] ∧ hcw y2 ∈ gBig ∧ Cond.methodLink own n (hy y2) ∈ gBig ∧ Cond.static (hy y2) ∈ gBig ∧ Cond.initialized (hy y2).cls ∈ gBig
theorem gp_callSX {n np : Nat} {as : List gV} {Q2 : gQt} {X2 : gXt} (hd : decode (hb y) pc = .ok (.invokestatic n, 3)) (hl : gCX (hy y).cls n y2 np) (hm : gRm y y2) (hn : as.length = np)
    (hsm : gsum r ≤ 8) (hc2 : c + hmc y2 ≤ hmc y) (hw2 : w + hms y2 ≤ hms y) (hM : gC E y2 as I J B Q2 X2)
    (kk : ∀ v I2 J2 B2, Q2 v I2 J2 B2 → gG E y (pc + 3) ls (gpush y2 v r) I2 J2 B2 (c + hmc y2) (w + hms y2) Q X)
    (kx : ∀ k I2 J2 B2, k < 3 → X2 k I2 J2 B2 → gGx E y pc ls k I2 J2 B2 (c + hmc y2) (w + hms y2) Q X) : gG E y pc ls (as.reverse ++ r) I J B c w Q X := by
  intro hc hw p e s m args below meth cc ad0 Bs hC hT H locs LS ad hS
  obtain ⟨ux, ub, ur, uml, hown, hts, ulk, hE⟩ := id hC
  obtain ⟨⟨e1, e2, e3⟩, l0, l1, l2, l3, l5⟩ := hl
  have hva : ∀ v ∈ as, gVv B v := fun v h => hS.vs v (by simp [h])
  have hvr : ∀ v ∈ r, gVv B v := fun v h => hS.vs v (by simp [h])
  have hcw9 : hcw y2 = Cond.codeWith (hy y2) (hb y2) (hml y2) (hr y2) (hht y2) := by
    unfold hcw
    cases h : hht y2 with
    | nil => exact absurd h l0
    | cons a b => rfl
  have hgood : GoodIn gBig (va_wsS (hy y).cls n (hy y2) (hws y2)) := by
    intro u hu
    unfold va_wsS at hu
    rcases List.mem_append.mp hu with hu | hu
    · simp only [List.mem_cons, List.not_mem_nil, or_false] at hu
      rcases hu with rfl | rfl | rfl
      · exact ⟨l2, gBig_good l2⟩
      · exact ⟨l3, gBig_good l3⟩
      · exact ⟨l5, gBig_good l5⟩
    · rcases List.mem_cons.mp hu with rfl | hu
      · exact ⟨l1, gBig_good l1⟩
      · exact ⟨hu, gBig_good hu⟩
  have cw := vx_cwSW (R := hrm y) (s := s) (args := args) (own := (hy y).cls) (index := n) (y := hy y2) (bytes := hb y2) (maxL := hml y2) (ret := hr y2) (mc := hmc y2) (ms := hms y2) (rm := hrm y2) (hh := hht y2) np hts hgood (by rw [← hcw9]; rfl) rfl rfl ⟨e1, e2, e3⟩ hm
  have hrun := vx_runSX (Ts := gBig) (g := F0 m pc LS ((as.map (gcv ad)).reverse ++ r.map (gcv ad))) (As := as.map (gcv ad)) (rest := r.map (gcv ad)) (H := H) (locs := locs) (cells := c) (slots := w) (e := e) (below := below) (meth := meth) ⟨ux, ub, uml, hown, hts⟩ (hM hva ad) cw
    ⟨gPc_blind, fun U hU hW => ⟨rfl, gPc_at hE hS.2.1 hS.1 hU hW⟩⟩ rfl (by rw [List.length_map]; exact hn) hS.2.2.1.1 rfl (lv_room (by rw [gsum_cv]; exact hsm)) hd ⟨hc2, hw2⟩
  have key := g_run (y2 := y2) hc2 hw2 hC hT hS hvr hrun kk kx
  rw [List.map_append, List.map_reverse]
  exact key
/-- not caught: it goes on -/
theorem gx_out {k : Nat} (ht : hht y = []) (hk : k < 3) (hq : X k I J B) : gGx E y pc ls k I J B c w Q X := by
  intro hc hw p e s m args below meth cc ad0 Bs hC hT H locs LS ad hS q ce rest h1 h2 h3
  refine vx_out (E := gxn k) ?_ hC.2.2.2.2.2.2.1 h1 h2 h3 ?_ (gfree hS.2.1) hc hw
  · intro x hx
    rw [hT, ht] at hx
    cases hx
  · intro t ht _
    exact ⟨⟨k, I, J, B, ad, ⟨hk, rfl⟩, hq, by rw [ht]; exact hS.1, hS.2.2.2.1, hS.2.2.2.2.1⟩, hS.2.1.F ht⟩
/-- the rows of a method's table name the three -/
def gHok (own : String) : List (Nat × Nat × Nat × Nat) → gH → Prop
  | [], [] => True
  | (a, b, h, i) :: t, (a2, b2, h2, j) :: t2 => (a2 = a ∧ b2 = b ∧ h2 = h ∧ j < 3 ∧ i ≠ 0 ∧ Cond.classLink own i (gxn j) ∈ gBig) ∧ gHok own t t2
  | _, _ => False
theorem gcov {a b h i pc : Nat} : covers (⟨a, b, h, i⟩ : ExceptionTableEntry) pc = (Nat.ble a pc && Nat.blt pc b) := by
  unfold covers
  rw [Bool.eq_iff_iff]
  simp [Nat.blt, Nat.ble_eq, Nat.succ_le_iff]
/-- what goes by a row that names another -/
def gBy (s : State) (args : Array Value) (own : String) (pc k : Nat) (z : ExceptionTableEntry) : Prop := covers z pc = false ∨ (z.catchType ≠ 0 ∧ ∃ nm : String, (Cond.classLink own z.catchType nm).before args s = true ∧ va_Nc (gxn k) nm s)
theorem gh_find {s : State} {args : Array Value} {own : String} {k : Nat} (hts : ∀ w ∈ gBig, w.before args s = true) (hE : gEv E s s.heap) (hk : k < 3) : ∀ (hh : List (Nat × Nat × Nat × Nat)) (hs : gH), gHok own hh hs →
    (∀ h, ghf hs pc k = some h → ∃ (pre : List ExceptionTableEntry) (x : ExceptionTableEntry) (suf : List ExceptionTableEntry), tableOf hh = pre ++ x :: suf ∧ (∀ z ∈ pre, gBy s args own pc k z) ∧ covers x pc = true ∧ x.catchType ≠ 0 ∧ x.handlerPc = h ∧ (Cond.classLink own x.catchType (gxn k)).before args s = true) ∧
    (ghf hs pc k = none → ∀ z ∈ tableOf hh, gBy s args own pc k z)
  | [], [], _ => ⟨fun h e => (by cases e), fun _ z hz => (by cases hz)⟩
  | (a, b, h, i) :: t, (a2, b2, h2, j) :: t2, ⟨⟨e1, e2, e3, hj, hi, hw⟩, ht⟩ => by
    subst e1; subst e2; subst e3
    obtain ⟨g1, g2⟩ := gh_find hts hE hk t t2 ht
    have hby : ¬ (Nat.ble a2 pc && Nat.blt pc b2 && Nat.beq j k) = true → gBy s args own pc k ⟨a2, b2, h2, i⟩ := by
      intro hn
      by_cases hc : (Nat.ble a2 pc && Nat.blt pc b2) = true
      · have hjk : j ≠ k := by
          intro e
          subst e
          apply hn
          rw [hc, Bool.true_and]
          exact Nat.beq_refl j
        exact Or.inr ⟨hi, gxn j, hts _ hw, hE.2.2.2.2.2.2.2.2.2.2.2.2.2.2.2.1 k j hk hj (fun e => hjk e.symm)⟩
      · refine Or.inl ?_
        rw [gcov]
        revert hc
        cases (Nat.ble a2 pc && Nat.blt pc b2) <;> simp
    constructor
    · intro h0 hf
      rw [ghf] at hf
      split at hf
      · rename_i hc
        cases hf
        have hc2 := Bool.and_eq_true_iff.mp hc
        have hjk : j = k := Nat.eq_of_beq_eq_true hc2.2
        subst hjk
        exact ⟨[], ⟨a2, b2, h2, i⟩, tableOf t, rfl, fun z hz => (by cases hz), (by rw [gcov]; exact hc2.1), hi, rfl, hts _ hw⟩
      · rename_i hc
        obtain ⟨pre, x, suf, q1, q2, q3⟩ := g1 h0 hf
        refine ⟨⟨a2, b2, h2, i⟩ :: pre, x, suf, ?_, ?_, q3⟩
        · show ⟨a2, b2, h2, i⟩ :: tableOf t = _
          rw [q1]
          rfl
        · intro z hz
          rcases List.mem_cons.mp hz with rfl | hz
          · exact hby (by rw [hc]; decide)
          · exact q2 z hz
    · intro hf z hz
      rw [ghf] at hf
      split at hf
      · cases hf
      · rename_i hc
        have hz : z ∈ (⟨a2, b2, h2, i⟩ : ExceptionTableEntry) :: tableOf t := hz
        rcases List.mem_cons.mp hz with rfl | hz
        · exact hby (by rw [hc]; decide)
        · exact g2 hf z hz
theorem gx_catch {k h a : Nat} {hs : gH} (hok : gHok (hy y).cls (hht y) hs) (hk : k < 3) (hf : ghf hs pc k = some h) {e0 : Nat} {ins : Instr} (hd : decode (hb y) h = .ok (ins, e0)) (hi : (∃ j : Fin 4, ins = .astore_n j ∧ (j : Nat) = a ∧ e0 = 1) ∨ (ins = .astore a ∧ e0 = 2)) (hn : a < hml y)
    (kk : gG E y (h + e0) (ls.filter (fun q => !(q.1 == a) && !(q.1 + 1 == a && gcat q.2 == 2))) [] I J B c w Q X) : gGx E y pc ls k I J B c w Q X := by
  intro hc hw p e s m args below meth cc ad0 Bs hC hT H locs LS ad hS q ce rest h1 h2 h3
  obtain ⟨ux, ub, ur, uml, hown, hts, ulk, hE⟩ := id hC
  obtain ⟨pre, x, suf, q1, q2, q3, q4, q5, q6⟩ := (gh_find (pc := pc) hts hE hk (hht y) hs hok).1 h hf
  have hcast : (Cond.castable (gxn k) (gxn k)).before args s = true := by
    rcases (show k = 0 ∨ k = 1 ∨ k = 2 by omega) with rfl | rfl | rfl
    · exact va_Nw.use rfl (hE.2.1 (.castable "java/lang/IllegalStateException" "java/lang/IllegalStateException") (by simp [gNst]))
    · exact va_Nw.use rfl (hE.2.1 (.castable "java/lang/IndexOutOfBoundsException" "java/lang/IndexOutOfBoundsException") (by simp [gNst]))
    · exact va_Nw.use rfl (hE.2.1 (.castable "java/lang/IllegalArgumentException" "java/lang/IllegalArgumentException") (by simp [gNst]))
  refine vx_catch hown pre x suf (hT.trans q1) q2 q3 q4 q6 hcast h1 h2 h3 ?_
  rw [q5]
  have hfin : ∀ LS2 : Array Slot, lv_has LS2 (hml y) ((a, Value.ref q) :: (ls.map (gcp ad)).filter (fun q => !(q.1 == a) && !(q.1 + 1 == a && q.2.category == 2))) → lv_has LS2 (hml y) ((ls.filter (fun q => !(q.1 == a) && !(q.1 + 1 == a && gcat q.2 == 2))).map (gcp ad)) := by
    intro LS2 hl
    refine ⟨hl.1, hl.2.1, fun z hz => hl.2.2 z (List.mem_cons_of_mem _ ?_)⟩
    rw [List.filter_map]
    obtain ⟨u, hu, rfl⟩ := List.mem_map.mp hz
    refine List.mem_map.mpr ⟨u, ?_, rfl⟩
    obtain ⟨u1, u2⟩ := List.mem_filter.mp hu
    refine List.mem_filter.mpr ⟨u1, ?_⟩
    simp only [Function.comp, gcp, gcat_cv]
    exact u2
  have hvl : ∀ z ∈ ls.filter (fun q => !(q.1 == a) && !(q.1 + 1 == a && gcat q.2 == 2)), gVv B z.2 := fun z hz => hS.2.2.2.2.2.1 z (List.mem_filter.mp hz).1
  rcases hi with ⟨j, rfl, hj, rfl⟩ | ⟨rfl, rfl⟩
  · exact lv_astore_n ux ub hd hj hS.2.2.1 hn rfl (fun LS2 hl => kk hc hw p e s m args below meth cc ad0 Bs hC hT H locs LS2 ad (hS.sv (hfin LS2 hl) hvl (fun v h => by cases h)))
  · exact lv_astore ux ub hd hS.2.2.1 hn rfl (fun LS2 hl => kk hc hw p e s m args below meth cc ad0 Bs hC hT H locs LS2 ad (hS.sv (hfin LS2 hl) hvl (fun v h => by cases h)))
theorem gx_pass {k : Nat} {hs : gH} (hok : gHok (hy y).cls (hht y) hs) (hk : k < 3) (hf : ghf hs pc k = none) (hq : X k I J B) : gGx E y pc ls k I J B c w Q X := by
  intro hc hw p e s m args below meth cc ad0 Bs hC hT H locs LS ad hS q ce rest h1 h2 h3
  obtain ⟨ux, ub, ur, uml, hown, hts, ulk, hE⟩ := id hC
  have hp := (gh_find (pc := pc) hts hE hk (hht y) hs hok).2 hf
  refine vx_outP hown ulk (fun z hz => hp z (by rw [← hT]; exact hz)) h1 h2 h3 ?_ (gfree hS.2.1) hc hw
  intro t ht _
  exact ⟨⟨k, I, J, B, ad, ⟨hk, rfl⟩, hq, by rw [ht]; exact hS.1, hS.2.2.2.1, hS.2.2.2.2.1⟩, hS.2.1.F ht⟩
end GH
end
section
/-! ===== which words the tables hold, by their places ===== -/
theorem gsubl {α : Type} {L : List α} {f : α → Cond} {is : List Nat} {T : List Cond} (h : L.map f = is.filterMap (fun i => T[i]?)) : ∀ t ∈ L, f t ∈ T := by
  intro t ht
  have h1 : f t ∈ L.map f := List.mem_map.mpr ⟨t, ht, rfl⟩
  rw [h] at h1
  obtain ⟨i, -, hi⟩ := List.mem_filterMap.mp h1
  exact List.mem_of_getElem? hi
theorem gpc1 {w : Cond} (h : w ∈ tables_1_1) : w ∈ lw_tbl := List.mem_append_right _ (List.mem_append_left _ h)
theorem gpc2 {w : Cond} (h : w ∈ tables_1_2) : w ∈ lw_tbl := List.mem_append_right _ (List.mem_append_right _ (List.mem_append_left _ h))
theorem gpc3 {w : Cond} (h : w ∈ tables_1_3) : w ∈ lw_tbl := List.mem_append_right _ (List.mem_append_right _ (List.mem_append_right _ (List.mem_append_left _ h)))
theorem gpc4 {w : Cond} (h : w ∈ tables_1_4) : w ∈ lw_tbl := List.mem_append_right _ (List.mem_append_right _ (List.mem_append_right _ (List.mem_append_right _ (List.mem_append_left _ h))))
theorem gpc5 {w : Cond} (h : w ∈ tables_1_5) : w ∈ lw_tbl := List.mem_append_right _ (List.mem_append_right _ (List.mem_append_right _ (List.mem_append_right _ (List.mem_append_right _ (List.mem_append_left _ h)))))
theorem gpc6 {w : Cond} (h : w ∈ tables_1_6) : w ∈ lw_tbl := List.mem_append_right _ (List.mem_append_right _ (List.mem_append_right _ (List.mem_append_right _ (List.mem_append_right _ (List.mem_append_right _ (h))))))
theorem gBig_of {w : Cond} (h : w ∈ lw_tbl) (h2 : goodWord w = true) : w ∈ gBig := List.mem_filter.mpr ⟨h, h2⟩
def gML_2 : List (Nat × Nat × Nat) := [(9, 282, 54), (9, 285, 55), (9, 151, 57), (9, 159, 58), (9, 262, 96), (9, 265, 107), (9, 179, 131)]
set_option maxRecDepth 100000 in
set_option maxHeartbeats 4000000 in
theorem gML_2_w : gML_2.map (fun t : Nat × Nat × Nat => Cond.methodLink (gcls t.1) t.2.1 (hy t.2.2)) = ([45, 49, 53, 57, 61, 65, 82] : List Nat).filterMap (fun i => tables_1_2[i]?) := rfl
def gML_3 : List (Nat × Nat × Nat) := [(9, 278, 149), (9, 23, 148), (9, 7, 311), (9, 13, 312), (9, 17, 52), (7, 77, 21), (9, 29, 53), (7, 88, 22), (3, 26, 308), (3, 32, 307), (3, 53, 44), (6, 42, 310), (6, 51, 48), (6, 63, 309), (3, 56, 31), (3, 152, 32), (3, 144, 34), (3, 156, 33), (3, 59, 23)]
set_option maxRecDepth 100000 in
set_option maxHeartbeats 4000000 in
theorem gML_3_w : gML_3.map (fun t : Nat × Nat × Nat => Cond.methodLink (gcls t.1) t.2.1 (hy t.2.2)) = ([94, 97, 100, 101, 119, 123, 127, 198, 202, 203, 204, 208, 211, 215, 219, 223, 227, 231, 235] : List Nat).filterMap (fun i => tables_1_3[i]?) := rfl
def gML_4 : List (Nat × Nat × Nat) := [(3, 78, 29), (3, 139, 311), (3, 148, 312), (3, 72, 30), (3, 82, 28), (3, 66, 24), (3, 102, 25), (3, 106, 26), (3, 132, 47), (3, 117, 27), (3, 69, 48), (7, 100, 45), (7, 104, 20), (9, 190, 151), (9, 139, 150), (9, 33, 59), (7, 119, 110), (7, 122, 114), (7, 125, 46), (9, 36, 60), (7, 129, 111), (9, 40, 61), (9, 43, 62), (9, 46, 63), (7, 138, 115), (7, 141, 122), (7, 145, 6), (1, 16, 308), (1, 22, 307), (1, 35, 46), (7, 341, 304), (7, 149, 11), (1, 50, 12), (1, 54, 13), (1, 61, 15), (1, 57, 14), (7, 174, 10), (9, 49, 67), (7, 156, 124), (7, 152, 123), (9, 52, 71), (7, 167, 117), (7, 171, 47), (9, 56, 72), (7, 177, 112), (7, 180, 125), (7, 183, 8), (9, 59, 73), (7, 186, 17), (1, 64, 8), (1, 67, 9), (9, 62, 74), (7, 189, 126), (7, 346, 41)]
set_option maxRecDepth 100000 in
set_option maxHeartbeats 4000000 in
theorem gML_4_w : gML_4.map (fun t : Nat × Nat × Nat => Cond.methodLink (gcls t.1) t.2.1 (hy t.2.2)) = ([0, 4, 5, 6, 10, 20, 25, 29, 33, 39, 44, 61, 65, 69, 75, 78, 82, 102, 107, 111, 115, 120, 124, 128, 132, 137, 141, 145, 146, 147, 151, 154, 158, 162, 166, 170, 174, 178, 182, 186, 191, 195, 199, 200, 204, 209, 213, 217, 221, 225, 226, 230, 234, 238] : List Nat).filterMap (fun i => tables_1_4[i]?) := rfl
def gML_5 : List (Nat × Nat × Nat) := [(5, 19, 7), (5, 25, 307), (5, 31, 8), (5, 34, 42), (5, 42, 15), (5, 38, 43), (5, 53, 9), (9, 65, 75), (7, 194, 40), (9, 69, 77), (7, 198, 127), (7, 349, 9), (9, 72, 78), (7, 203, 119), (7, 255, 35), (4, 31, 6), (4, 35, 9), (4, 39, 11), (7, 206, 36), (4, 43, 7), (4, 47, 8), (9, 75, 79), (7, 211, 16), (9, 78, 83), (7, 222, 50), (9, 81, 84), (9, 84, 85), (9, 88, 87), (7, 238, 118), (7, 244, 0), (0, 34, 3), (0, 66, 306), (0, 38, 4), (9, 91, 92), (7, 261, 128), (9, 94, 93), (7, 264, 113), (7, 267, 129), (7, 353, 121), (9, 97, 94), (9, 100, 97), (9, 103, 98), (7, 280, 18), (2, 22, 45), (2, 29, 308), (7, 283, 48), (9, 106, 99), (9, 109, 100), (9, 112, 101), (7, 286, 120), (9, 115, 102), (9, 118, 103), (9, 121, 104), (7, 217, 49), (7, 297, 39), (4, 83, 37), (4, 51, 308), (4, 56, 36), (4, 73, 38), (4, 80, 46), (4, 87, 1), (0, 45, 0), (0, 49, 5), (0, 54, 2), (0, 62, 46), (4, 93, 51), (6, 68, 305), (6, 74, 307), (9, 124, 105), (7, 303, 308), (7, 251, 1), (9, 127, 106), (7, 306, 19)]
set_option maxRecDepth 100000 in
set_option maxHeartbeats 4000000 in
theorem gML_5_w : gML_5.map (fun t : Nat × Nat × Nat => Cond.methodLink (gcls t.1) t.2.1 (hy t.2.2)) = ([2, 6, 7, 8, 12, 14, 18, 19, 24, 28, 32, 36, 38, 42, 46, 50, 51, 52, 53, 57, 58, 59, 64, 68, 73, 77, 81, 85, 89, 93, 97, 100, 105, 109, 113, 117, 121, 126, 130, 131, 135, 141, 145, 150, 151, 152, 153, 157, 161, 165, 167, 172, 177, 181, 187, 191, 195, 196, 198, 202, 203, 207, 208, 212, 216, 217, 221, 224, 225, 230, 231, 232, 236] : List Nat).filterMap (fun i => tables_1_5[i]?) := rfl
def gML_6 : List (Nat × Nat × Nat) := [(9, 130, 108), (7, 318, 116), (9, 133, 109), (9, 136, 64), (9, 288, 152), (9, 167, 147), (13, 83, 132), (9, 172, 132), (9, 175, 95), (9, 301, 153), (9, 184, 81), (9, 291, 154), (9, 194, 143), (13, 90, 142), (13, 86, 136), (13, 86, 137), (13, 86, 138), (13, 86, 139), (13, 86, 140), (13, 86, 141), (13, 77, 171), (13, 74, 134), (13, 70, 133), (9, 195, 307), (9, 200, 66), (9, 203, 68), (7, 159, 307), (9, 206, 69), (9, 209, 65), (9, 212, 146), (13, 96, 170), (13, 99, 145), (9, 213, 142), (9, 216, 141), (9, 220, 70), (9, 295, 156), (9, 225, 144), (13, 93, 143), (9, 226, 157), (9, 243, 145), (9, 236, 134), (9, 247, 170), (9, 240, 80), (9, 229, 135), (9, 232, 155), (9, 298, 158), (9, 252, 305)]
set_option maxRecDepth 100000 in
set_option maxHeartbeats 4000000 in
theorem gML_6_w : gML_6.map (fun t : Nat × Nat × Nat => Cond.methodLink (gcls t.1) t.2.1 (hy t.2.2)) = ([1, 5, 9, 14, 19, 22, 26, 30, 31, 35, 38, 43, 46, 50, 54, 54, 54, 54, 54, 54, 58, 62, 66, 70, 71, 75, 79, 80, 84, 88, 92, 98, 102, 103, 104, 108, 111, 115, 116, 119, 120, 121, 123, 127, 131, 134, 137] : List Nat).filterMap (fun i => tables_1_6[i]?) := rfl
def gML : List (Nat × Nat × Nat) := gML_2 ++ gML_3 ++ gML_4 ++ gML_5 ++ gML_6
theorem gML_ok : ∀ t ∈ gML, (fun t : Nat × Nat × Nat => Cond.methodLink (gcls t.1) t.2.1 (hy t.2.2)) t ∈ gBig := by
  intro t ht
  rcases List.mem_append.mp ht with ht | ht
  rotate_left
  · exact gBig_of (gpc6 (gsubl gML_6_w t ht)) rfl
  rcases List.mem_append.mp ht with ht | ht
  rotate_left
  · exact gBig_of (gpc5 (gsubl gML_5_w t ht)) rfl
  rcases List.mem_append.mp ht with ht | ht
  rotate_left
  · exact gBig_of (gpc4 (gsubl gML_4_w t ht)) rfl
  rcases List.mem_append.mp ht with ht | ht
  rotate_left
  · exact gBig_of (gpc3 (gsubl gML_3_w t ht)) rfl
  exact gBig_of (gpc2 (gsubl gML_2_w t ht)) rfl
def gFN : List (Nat × Nat × Nat × Nat) := [(5, 46, 1, 3)] ++ gNfl.map (fun t => (9, t.1, 9, t.2))
def gTX (ci : Nat) : u_T := ([TX0, TX1, TX2, TX3, TX4, TX5, TX6, TX7, TX8, TX9] : List u_T).getD ci TX0
theorem gFN_ok : ∀ t ∈ gFN, ∃ host, Cond.fieldLinkNest (gcls t.1) t.2.1 (gTX t.2.2.1 t.2.2.2).1 (gTX t.2.2.1 t.2.2.2).2.1 (gTX t.2.2.1 t.2.2.2).2.2.1 host ∈ gNst := by
  intro t ht
  rcases List.mem_append.mp ht with ht | ht
  · cases List.mem_singleton.mp ht
    exact ⟨"ToeplitzLab", List.mem_of_getElem? (i := 0) rfl⟩
  · obtain ⟨u, hu, rfl⟩ := List.mem_map.mp ht
    exact ⟨"ToeplitzLabLaw", List.mem_append_right _ (List.mem_map.mpr ⟨u, hu, rfl⟩)⟩
def gFT_1 : List (Nat × Nat × Nat × Nat) := [(4, 22, 6, 0), (6, 35, 6, 0), (0, 42, 6, 0), (7, 107, 6, 0), (3, 89, 6, 0), (6, 39, 6, 1), (0, 24, 6, 1), (4, 28, 6, 1), (3, 97, 6, 1), (7, 116, 6, 1), (6, 9, 6, 2), (6, 15, 6, 3), (0, 58, 6, 3), (3, 113, 6, 3), (7, 132, 6, 3), (6, 18, 6, 4), (3, 123, 6, 4), (7, 135, 6, 4), (0, 18, 6, 5), (6, 60, 6, 5), (4, 77, 6, 5), (7, 214, 6, 5), (6, 21, 6, 6), (0, 27, 6, 6), (4, 69, 6, 6), (6, 25, 6, 7), (0, 31, 6, 7), (4, 65, 6, 7), (7, 228, 6, 7), (6, 29, 6, 8), (4, 59, 6, 8), (7, 225, 6, 8), (6, 48, 6, 9), (7, 270, 6, 9), (6, 32, 6, 10), (7, 277, 6, 10), (3, 9, 3, 0), (7, 73, 3, 1), (3, 22, 3, 1), (3, 18, 3, 2), (7, 97, 3, 2), (3, 38, 3, 3), (7, 110, 3, 3), (7, 113, 3, 4), (3, 136, 3, 4), (3, 35, 3, 5), (3, 63, 3, 6), (3, 41, 3, 7), (3, 86, 3, 8), (3, 126, 3, 9), (3, 129, 3, 10), (3, 44, 3, 11), (3, 47, 3, 12), (3, 50, 3, 13), (2, 11, 2, 0), (2, 17, 2, 1), (2, 26, 2, 2), (7, 315, 2, 2), (1, 11, 1, 0), (1, 25, 1, 1), (1, 29, 1, 2), (1, 32, 1, 3), (1, 44, 1, 4), (1, 47, 1, 5), (5, 11, 5, 0), (5, 16, 5, 1), (0, 9, 0, 0), (7, 241, 0, 0), (0, 15, 0, 1)]
set_option maxRecDepth 100000 in
set_option maxHeartbeats 4000000 in
theorem gFT_1_w : gFT_1.map (fun t : Nat × Nat × Nat × Nat => Cond.fieldLink (gcls t.1) t.2.1 (gTX t.2.2.1 t.2.2.2).1 (gTX t.2.2.1 t.2.2.2).2.1 (gTX t.2.2.1 t.2.2.2).2.2.1) = ([49, 50, 51, 52, 53, 54, 55, 56, 57, 58, 59, 60, 61, 62, 63, 64, 65, 66, 67, 68, 69, 70, 71, 72, 73, 74, 75, 76, 77, 78, 79, 80, 81, 82, 83, 84, 111, 112, 113, 114, 115, 116, 117, 118, 119, 120, 121, 122, 123, 124, 125, 126, 127, 128, 168, 169, 170, 171, 187, 188, 189, 190, 192, 193, 215, 216, 228, 229, 230] : List Nat).filterMap (fun i => tables_1_1[i]?) := rfl
def gFT_2 : List (Nat × Nat × Nat × Nat) := [(4, 12, 4, 0), (4, 18, 4, 1), (7, 10, 7, 0), (7, 19, 7, 1), (7, 23, 7, 2), (7, 29, 7, 3), (7, 33, 7, 4), (7, 37, 7, 5), (7, 44, 7, 6), (7, 51, 7, 7), (7, 58, 7, 8), (7, 65, 7, 9), (7, 69, 7, 10), (8, 7, 8, 0), (8, 13, 8, 1)]
set_option maxRecDepth 100000 in
set_option maxHeartbeats 4000000 in
theorem gFT_2_w : gFT_2.map (fun t : Nat × Nat × Nat × Nat => Cond.fieldLink (gcls t.1) t.2.1 (gTX t.2.2.1 t.2.2.2).1 (gTX t.2.2.1 t.2.2.2).2.1 (gTX t.2.2.1 t.2.2.2).2.2.1) = ([4, 5, 11, 12, 13, 14, 15, 16, 17, 18, 19, 20, 21, 75, 76] : List Nat).filterMap (fun i => tables_1_2[i]?) := rfl
def gFT_3 : List (Nat × Nat × Nat × Nat) := [(13, 20, 9, 1), (13, 27, 9, 3), (13, 36, 9, 4), (13, 45, 9, 5)]
set_option maxRecDepth 100000 in
set_option maxHeartbeats 4000000 in
theorem gFT_3_w : gFT_3.map (fun t : Nat × Nat × Nat × Nat => Cond.fieldLink (gcls t.1) t.2.1 (gTX t.2.2.1 t.2.2.2).1 (gTX t.2.2.1 t.2.2.2).2.1 (gTX t.2.2.1 t.2.2.2).2.2.1) = ([71, 75, 77, 79] : List Nat).filterMap (fun i => tables_1_3[i]?) := rfl
def gFT : List (Nat × Nat × Nat × Nat) := gFT_1 ++ gFT_2 ++ gFT_3
theorem gFT_ok : ∀ t ∈ gFT, (fun t : Nat × Nat × Nat × Nat => Cond.fieldLink (gcls t.1) t.2.1 (gTX t.2.2.1 t.2.2.2).1 (gTX t.2.2.1 t.2.2.2).2.1 (gTX t.2.2.1 t.2.2.2).2.2.1) t ∈ gBig := by
  intro t ht
  rcases List.mem_append.mp ht with ht | ht
  rotate_left
  · exact gBig_of (gpc3 (gsubl gFT_3_w t ht)) rfl
  rcases List.mem_append.mp ht with ht | ht
  rotate_left
  · exact gBig_of (gpc2 (gsubl gFT_2_w t ht)) rfl
  exact gBig_of (gpc1 (gsubl gFT_1_w t ht)) rfl
def gYc_2 : List Nat := [54, 55, 57, 58, 96, 107, 131, 311, 307, 308]
set_option maxRecDepth 100000 in
set_option maxHeartbeats 4000000 in
theorem gYc_2_w : gYc_2.map (fun y : Nat => Cond.code (hy y) (hb y) (hml y) (hr y)) = ([48, 52, 56, 60, 64, 68, 85, 106, 153, 170] : List Nat).filterMap (fun i => tables_1_2[i]?) := rfl
def gYc_3 : List Nat := [149, 148, 312, 52, 21, 53, 22, 44, 310, 48, 309, 31, 32, 34, 33, 23]
set_option maxRecDepth 100000 in
set_option maxHeartbeats 4000000 in
theorem gYc_3_w : gYc_3.map (fun y : Nat => Cond.code (hy y) (hb y) (hml y) (hr y)) = ([96, 99, 104, 122, 126, 130, 201, 207, 210, 214, 217, 222, 226, 230, 234, 238] : List Nat).filterMap (fun i => tables_1_3[i]?) := rfl
def gYc_4 : List Nat := [29, 30, 28, 120, 24, 25, 26, 47, 27, 45, 20, 150, 59, 110, 114, 46, 60, 111, 61, 62, 63, 115, 122, 6, 121, 304, 11, 12, 13, 15, 14, 10, 67, 124, 123, 71, 117, 72, 112, 125, 8, 73, 17, 9, 74, 126]
set_option maxRecDepth 100000 in
set_option maxHeartbeats 4000000 in
theorem gYc_4_w : gYc_4.map (fun y : Nat => Cond.code (hy y) (hb y) (hml y) (hr y)) = ([3, 9, 13, 17, 23, 28, 32, 36, 42, 64, 68, 77, 81, 85, 105, 110, 114, 118, 123, 127, 131, 135, 140, 144, 150, 153, 157, 161, 165, 169, 173, 177, 181, 185, 189, 194, 197, 203, 207, 212, 216, 220, 224, 229, 233, 237] : List Nat).filterMap (fun i => tables_1_4[i]?) := rfl
def gYc_5 : List Nat := [41, 7, 42, 43, 75, 40, 77, 127, 78, 119, 35, 36, 79, 16, 83, 50, 84, 85, 87, 118, 0, 3, 306, 4, 92, 128, 93, 113, 129, 94, 97, 98, 18, 99, 100, 101, 102, 103, 104, 49, 39, 37, 38, 1, 5, 2, 51, 305, 105, 106, 19]
set_option maxRecDepth 100000 in
set_option maxHeartbeats 4000000 in
theorem gYc_5_w : gYc_5.map (fun y : Nat => Cond.code (hy y) (hb y) (hml y) (hr y)) = ([1, 5, 11, 17, 22, 27, 31, 35, 41, 45, 49, 56, 62, 67, 71, 76, 80, 84, 88, 92, 96, 99, 102, 107, 112, 116, 120, 124, 129, 134, 138, 144, 148, 156, 160, 164, 170, 175, 180, 184, 190, 194, 201, 206, 210, 215, 220, 223, 228, 235, 239] : List Nat).filterMap (fun i => tables_1_5[i]?) := rfl
def gYc_6 : List Nat := [108, 116, 109, 64, 152, 147, 132, 95, 153, 81, 154, 143, 142, 136, 137, 138, 139, 140, 141, 171, 134, 133, 66, 68, 69, 65, 146, 170, 145, 70, 156, 144, 157, 80, 135, 155, 158]
set_option maxRecDepth 100000 in
set_option maxHeartbeats 4000000 in
theorem gYc_6_w : gYc_6.map (fun y : Nat => Cond.code (hy y) (hb y) (hml y) (hr y)) = ([4, 7, 12, 17, 21, 25, 29, 34, 37, 41, 45, 49, 53, 57, 57, 57, 57, 57, 57, 60, 65, 69, 74, 78, 83, 87, 91, 94, 101, 107, 110, 114, 118, 126, 130, 133, 136] : List Nat).filterMap (fun i => tables_1_6[i]?) := rfl
def gYc : List Nat := gYc_2 ++ gYc_3 ++ gYc_4 ++ gYc_5 ++ gYc_6
theorem gYc_ok : ∀ t ∈ gYc, (fun y : Nat => Cond.code (hy y) (hb y) (hml y) (hr y)) t ∈ gBig := by
  intro t ht
  rcases List.mem_append.mp ht with ht | ht
  rotate_left
  · exact gBig_of (gpc6 (gsubl gYc_6_w t ht)) rfl
  rcases List.mem_append.mp ht with ht | ht
  rotate_left
  · exact gBig_of (gpc5 (gsubl gYc_5_w t ht)) rfl
  rcases List.mem_append.mp ht with ht | ht
  rotate_left
  · exact gBig_of (gpc4 (gsubl gYc_4_w t ht)) rfl
  rcases List.mem_append.mp ht with ht | ht
  rotate_left
  · exact gBig_of (gpc3 (gsubl gYc_3_w t ht)) rfl
  exact gBig_of (gpc2 (gsubl gYc_2_w t ht)) rfl
def gYx_4 : List Nat := [151]
set_option maxRecDepth 100000 in
set_option maxHeartbeats 4000000 in
theorem gYx_4_w : gYx_4.map (fun y : Nat => Cond.codeWith (hy y) (hb y) (hml y) (hr y) (hht y)) = ([71] : List Nat).filterMap (fun i => tables_1_4[i]?) := rfl
def gYx : List Nat := gYx_4
theorem gYx_ok : ∀ t ∈ gYx, (fun y : Nat => Cond.codeWith (hy y) (hb y) (hml y) (hr y) (hht y)) t ∈ gBig := by
  intro t ht
  exact gBig_of (gpc4 (gsubl gYx_4_w t ht)) rfl
def gYi_2 : List Nat := [54, 55, 57, 58, 96, 107, 131, 311]
set_option maxRecDepth 100000 in
set_option maxHeartbeats 4000000 in
theorem gYi_2_w : gYi_2.map (fun y : Nat => Cond.instanceMethod (hy y)) = ([46, 50, 54, 58, 62, 66, 83, 104] : List Nat).filterMap (fun i => tables_1_2[i]?) := rfl
def gYi_3 : List Nat := [312, 52, 21, 53, 22, 44, 48, 31, 32, 34, 33, 23]
set_option maxRecDepth 100000 in
set_option maxHeartbeats 4000000 in
theorem gYi_3_w : gYi_3.map (fun y : Nat => Cond.instanceMethod (hy y)) = ([102, 120, 124, 128, 199, 205, 212, 221, 225, 229, 233, 237] : List Nat).filterMap (fun i => tables_1_3[i]?) := rfl
def gYi_4 : List Nat := [29, 30, 28, 24, 25, 26, 47, 27, 45, 20, 59, 110, 114, 46, 60, 111, 61, 62, 63, 115, 122, 6, 11, 12, 13, 15, 14, 10, 67, 124, 123, 71, 72, 112, 125, 8, 73, 17, 9, 74, 126, 41]
set_option maxRecDepth 100000 in
set_option maxHeartbeats 4000000 in
theorem gYi_4_w : gYi_4.map (fun y : Nat => Cond.instanceMethod (hy y)) = ([2, 8, 12, 22, 27, 31, 34, 41, 62, 66, 79, 84, 104, 108, 112, 117, 121, 125, 129, 134, 139, 142, 155, 160, 164, 167, 172, 175, 179, 184, 188, 192, 201, 206, 211, 214, 218, 222, 227, 231, 236, 239] : List Nat).filterMap (fun i => tables_1_4[i]?) := rfl
def gYi_5 : List Nat := [7, 42, 43, 75, 40, 77, 127, 78, 119, 35, 36, 79, 16, 83, 50, 84, 85, 87, 118, 0, 92, 128, 93, 113, 129, 94, 97, 98, 18, 99, 100, 101, 102, 103, 104, 49, 39, 37, 38, 1, 2, 51, 105, 106, 19]
set_option maxRecDepth 100000 in
set_option maxHeartbeats 4000000 in
theorem gYi_5_w : gYi_5.map (fun y : Nat => Cond.instanceMethod (hy y)) = ([3, 10, 16, 20, 25, 29, 34, 39, 44, 47, 54, 60, 65, 69, 74, 78, 82, 86, 91, 94, 110, 115, 118, 123, 128, 132, 136, 142, 146, 154, 158, 162, 168, 173, 178, 182, 188, 192, 200, 204, 214, 218, 226, 233, 237] : List Nat).filterMap (fun i => tables_1_5[i]?) := rfl
def gYi_6 : List Nat := [108, 109, 64, 147, 132, 95, 81, 143, 142, 136, 137, 138, 139, 140, 141, 134, 133, 66, 68, 69, 65, 146, 145, 70, 144, 80, 135]
set_option maxRecDepth 100000 in
set_option maxHeartbeats 4000000 in
theorem gYi_6_w : gYi_6.map (fun y : Nat => Cond.instanceMethod (hy y)) = ([2, 10, 15, 23, 27, 32, 39, 47, 51, 55, 55, 55, 55, 55, 55, 63, 67, 72, 76, 81, 85, 89, 99, 105, 112, 124, 128] : List Nat).filterMap (fun i => tables_1_6[i]?) := rfl
def gYi : List Nat := gYi_2 ++ gYi_3 ++ gYi_4 ++ gYi_5 ++ gYi_6
theorem gYi_ok : ∀ t ∈ gYi, (fun y : Nat => Cond.instanceMethod (hy y)) t ∈ gBig := by
  intro t ht
  rcases List.mem_append.mp ht with ht | ht
  rotate_left
  · exact gBig_of (gpc6 (gsubl gYi_6_w t ht)) rfl
  rcases List.mem_append.mp ht with ht | ht
  rotate_left
  · exact gBig_of (gpc5 (gsubl gYi_5_w t ht)) rfl
  rcases List.mem_append.mp ht with ht | ht
  rotate_left
  · exact gBig_of (gpc4 (gsubl gYi_4_w t ht)) rfl
  rcases List.mem_append.mp ht with ht | ht
  rotate_left
  · exact gBig_of (gpc3 (gsubl gYi_3_w t ht)) rfl
  exact gBig_of (gpc2 (gsubl gYi_2_w t ht)) rfl
def gYs_2 : List Nat := [307, 308]
set_option maxRecDepth 100000 in
set_option maxHeartbeats 4000000 in
theorem gYs_2_w : gYs_2.map (fun y : Nat => Cond.static (hy y)) = ([152, 169] : List Nat).filterMap (fun i => tables_1_2[i]?) := rfl
def gYs_3 : List Nat := [149, 148, 310, 309]
set_option maxRecDepth 100000 in
set_option maxHeartbeats 4000000 in
theorem gYs_3_w : gYs_3.map (fun y : Nat => Cond.static (hy y)) = ([95, 98, 209, 216] : List Nat).filterMap (fun i => tables_1_3[i]?) := rfl
def gYs_4 : List Nat := [120, 151, 150, 121, 304, 117]
set_option maxRecDepth 100000 in
set_option maxHeartbeats 4000000 in
theorem gYs_4_w : gYs_4.map (fun y : Nat => Cond.static (hy y)) = ([16, 70, 76, 149, 152, 196] : List Nat).filterMap (fun i => tables_1_4[i]?) := rfl
def gYs_5 : List Nat := [3, 306, 4, 5, 305]
set_option maxRecDepth 100000 in
set_option maxHeartbeats 4000000 in
theorem gYs_5_w : gYs_5.map (fun y : Nat => Cond.static (hy y)) = ([98, 101, 106, 209, 222] : List Nat).filterMap (fun i => tables_1_5[i]?) := rfl
def gYs_6 : List Nat := [116, 152, 153, 154, 171, 170, 156, 157, 155, 158]
set_option maxRecDepth 100000 in
set_option maxHeartbeats 4000000 in
theorem gYs_6_w : gYs_6.map (fun y : Nat => Cond.static (hy y)) = ([6, 20, 36, 44, 59, 93, 109, 117, 132, 135] : List Nat).filterMap (fun i => tables_1_6[i]?) := rfl
def gYs : List Nat := gYs_2 ++ gYs_3 ++ gYs_4 ++ gYs_5 ++ gYs_6
theorem gYs_ok : ∀ t ∈ gYs, (fun y : Nat => Cond.static (hy y)) t ∈ gBig := by
  intro t ht
  rcases List.mem_append.mp ht with ht | ht
  rotate_left
  · exact gBig_of (gpc6 (gsubl gYs_6_w t ht)) rfl
  rcases List.mem_append.mp ht with ht | ht
  rotate_left
  · exact gBig_of (gpc5 (gsubl gYs_5_w t ht)) rfl
  rcases List.mem_append.mp ht with ht | ht
  rotate_left
  · exact gBig_of (gpc4 (gsubl gYs_4_w t ht)) rfl
  rcases List.mem_append.mp ht with ht | ht
  rotate_left
  · exact gBig_of (gpc3 (gsubl gYs_3_w t ht)) rfl
  exact gBig_of (gpc2 (gsubl gYs_2_w t ht)) rfl
def gYp_2 : List Nat := [54, 55, 57, 58, 96, 107, 131, 311]
set_option maxRecDepth 100000 in
set_option maxHeartbeats 4000000 in
theorem gYp_2_w : gYp_2.map (fun y : Nat => Cond.selects (hy y).cls (hy y) (hy y)) = ([47, 51, 55, 59, 63, 67, 84, 105] : List Nat).filterMap (fun i => tables_1_2[i]?) := rfl
def gYp_3 : List Nat := [312, 52, 21, 53, 22, 44, 48]
set_option maxRecDepth 100000 in
set_option maxHeartbeats 4000000 in
theorem gYp_3_w : gYp_3.map (fun y : Nat => Cond.selects (hy y).cls (hy y) (hy y)) = ([103, 121, 125, 129, 200, 206, 213] : List Nat).filterMap (fun i => tables_1_3[i]?) := rfl
def gYp_4 : List Nat := [47, 45, 20, 59, 46, 60, 61, 62, 63, 6, 11, 15, 10, 67, 71, 72, 8, 73, 17, 9, 74]
set_option maxRecDepth 100000 in
set_option maxHeartbeats 4000000 in
theorem gYp_4_w : gYp_4.map (fun y : Nat => Cond.selects (hy y).cls (hy y) (hy y)) = ([35, 63, 67, 80, 109, 113, 122, 126, 130, 143, 156, 168, 176, 180, 193, 202, 215, 219, 223, 228, 232] : List Nat).filterMap (fun i => tables_1_4[i]?) := rfl
def gYp_5 : List Nat := [41, 7, 75, 40, 77, 78, 35, 36, 79, 16, 83, 50, 84, 85, 87, 0, 92, 93, 94, 97, 98, 18, 99, 100, 101, 102, 103, 104, 49, 39, 37, 1, 51, 105, 106, 19]
set_option maxRecDepth 100000 in
set_option maxHeartbeats 4000000 in
theorem gYp_5_w : gYp_5.map (fun y : Nat => Cond.selects (hy y).cls (hy y) (hy y)) = ([0, 4, 21, 26, 30, 40, 48, 55, 61, 66, 70, 75, 79, 83, 87, 95, 111, 119, 133, 137, 143, 147, 155, 159, 163, 169, 174, 179, 183, 189, 193, 205, 219, 227, 234, 238] : List Nat).filterMap (fun i => tables_1_5[i]?) := rfl
def gYp_6 : List Nat := [108, 109, 64, 147, 132, 95, 81, 143, 142, 136, 137, 138, 139, 140, 141, 134, 133, 66, 68, 69, 65, 146, 145, 70, 144, 80, 135]
set_option maxRecDepth 100000 in
set_option maxHeartbeats 4000000 in
theorem gYp_6_w : gYp_6.map (fun y : Nat => Cond.selects (hy y).cls (hy y) (hy y)) = ([3, 11, 16, 24, 28, 33, 40, 48, 52, 56, 56, 56, 56, 56, 56, 64, 68, 73, 77, 82, 86, 90, 100, 106, 113, 125, 129] : List Nat).filterMap (fun i => tables_1_6[i]?) := rfl
def gYp : List Nat := gYp_2 ++ gYp_3 ++ gYp_4 ++ gYp_5 ++ gYp_6
theorem gYp_ok : ∀ t ∈ gYp, (fun y : Nat => Cond.selects (hy y).cls (hy y) (hy y)) t ∈ gBig := by
  intro t ht
  rcases List.mem_append.mp ht with ht | ht
  rotate_left
  · exact gBig_of (gpc6 (gsubl gYp_6_w t ht)) rfl
  rcases List.mem_append.mp ht with ht | ht
  rotate_left
  · exact gBig_of (gpc5 (gsubl gYp_5_w t ht)) rfl
  rcases List.mem_append.mp ht with ht | ht
  rotate_left
  · exact gBig_of (gpc4 (gsubl gYp_4_w t ht)) rfl
  rcases List.mem_append.mp ht with ht | ht
  rotate_left
  · exact gBig_of (gpc3 (gsubl gYp_3_w t ht)) rfl
  exact gBig_of (gpc2 (gsubl gYp_2_w t ht)) rfl
def gYq : List Nat := [31, 32, 34, 33, 23, 29, 30, 28, 24, 25, 26, 27, 110, 114, 111, 115, 122, 12, 13, 14, 124, 123, 112, 125, 126, 42, 43, 127, 119, 118, 128, 113, 129, 38, 2]
set_option maxRecDepth 100000 in
set_option maxHeartbeats 4000000 in
theorem gYq_w : gYq.map (fun y : Nat => Cond.selects (hy y).cls (hy y) (hy y)) = ([1, 2, 3, 4, 5, 6, 7, 8, 9, 10, 11, 12, 13, 14, 15, 16, 17, 18, 19, 20, 21, 22, 23, 24, 25, 26, 27, 28, 29, 30, 31, 32, 33, 34, 35] : List Nat).filterMap (fun i => (k2_sels lw_privs)[i]?) := rfl
theorem gYq_ok : ∀ t ∈ gYq, Cond.selects (hy t).cls (hy t) (hy t) ∈ gBig := fun t ht => gBig_of (List.mem_append_left _ (gsubl gYq_w t ht)) rfl
def gIn_1 : List String := ["ToeplitzLabLaw", "ToeplitzLabLaw$Draws", "ToeplitzLabLaw$Lab", "java/lang/String", "java/lang/Math", "java/util/Arrays", "java/lang/System", "java/lang/Integer", "ToeplitzLab", "ToeplitzLab$Input", "ToeplitzLab$State", "ToeplitzLab$History", "ToeplitzLab$Grid", "ToeplitzLab$Pairs", "ToeplitzLab$Fractions", "ToeplitzLab$Lifter", "java/lang/IllegalStateException", "java/lang/IndexOutOfBoundsException", "java/lang/IllegalArgumentException"]
set_option maxRecDepth 100000 in
set_option maxHeartbeats 4000000 in
theorem gIn_1_w : gIn_1.map (fun s : String => Cond.initialized s) = ([0, 1, 2, 5, 8, 9, 10, 14, 15, 16, 17, 18, 19, 20, 21, 22, 26, 27, 28] : List Nat).filterMap (fun i => tables_1_1[i]?) := rfl
def gIn : List String := gIn_1
theorem gIn_ok : ∀ t ∈ gIn, (fun s : String => Cond.initialized s) t ∈ gBig := by
  intro t ht
  exact gBig_of (gpc1 (gsubl gIn_1_w t ht)) rfl
def gCl_3 : List (String × Nat × String) := [("ToeplitzLab", 81, "java/lang/IndexOutOfBoundsException")]
set_option maxRecDepth 100000 in
set_option maxHeartbeats 4000000 in
theorem gCl_3_w : gCl_3.map (fun t : String × Nat × String => Cond.classLink t.1 t.2.1 t.2.2) = ([131] : List Nat).filterMap (fun i => tables_1_3[i]?) := rfl
def gCl_4 : List (String × Nat × String) := [("ToeplitzLab", 92, "java/lang/IllegalArgumentException"), ("ToeplitzLabLaw", 145, "java/lang/IllegalStateException"), ("ToeplitzLabLaw", 147, "java/lang/IndexOutOfBoundsException"), ("ToeplitzLabLaw", 149, "java/lang/IllegalArgumentException"), ("ToeplitzLab", 310, "java/lang/IllegalStateException")]
set_option maxRecDepth 100000 in
set_option maxHeartbeats 4000000 in
theorem gCl_4_w : gCl_4.map (fun t : String × Nat × String => Cond.classLink t.1 t.2.1 t.2.2) = ([45, 72, 73, 74, 86] : List Nat).filterMap (fun i => tables_1_4[i]?) := rfl
def gCl : List (String × Nat × String) := gCl_3 ++ gCl_4
theorem gCl_ok : ∀ t ∈ gCl, (fun t : String × Nat × String => Cond.classLink t.1 t.2.1 t.2.2) t ∈ gBig := by
  intro t ht
  rcases List.mem_append.mp ht with ht | ht
  rotate_left
  · exact gBig_of (gpc4 (gsubl gCl_4_w t ht)) rfl
  exact gBig_of (gpc3 (gsubl gCl_3_w t ht)) rfl
def gKl_5 : List (String × Nat × Int64) := [("ToeplitzLab$Fractions", 72, 1000000), ("ToeplitzLab$Fractions", 74, 2), ("ToeplitzLab$State", 66, 1000000000000), ("ToeplitzLab$Fractions", 52, 1000000000)]
set_option maxRecDepth 100000 in
set_option maxHeartbeats 4000000 in
theorem gKl_5_w : gKl_5.map (fun t : String × Nat × Int64 => Cond.constantLong t.1 t.2.1 t.2.2) = ([103, 104, 185, 211] : List Nat).filterMap (fun i => tables_1_5[i]?) := rfl
def gKl_6 : List (String × Nat × Int64) := [("ToeplitzLabLaw", 143, -99), ("ToeplitzLabLaw", 223, -1)]
set_option maxRecDepth 100000 in
set_option maxHeartbeats 4000000 in
theorem gKl_6_w : gKl_6.map (fun t : String × Nat × Int64 => Cond.constantLong t.1 t.2.1 t.2.2) = ([18, 122] : List Nat).filterMap (fun i => tables_1_6[i]?) := rfl
def gKl : List (String × Nat × Int64) := gKl_5 ++ gKl_6
theorem gKl_ok : ∀ t ∈ gKl, (fun t : String × Nat × Int64 => Cond.constantLong t.1 t.2.1 t.2.2) t ∈ gBig := by
  intro t ht
  rcases List.mem_append.mp ht with ht | ht
  rotate_left
  · exact gBig_of (gpc6 (gsubl gKl_6_w t ht)) rfl
  exact gBig_of (gpc5 (gsubl gKl_5_w t ht)) rfl
def gKi_2 : List (String × Nat × Int32) := [("ToeplitzLabLaw$Draws", 17, 2147483647)]
set_option maxRecDepth 100000 in
set_option maxHeartbeats 4000000 in
theorem gKi_2_w : gKi_2.map (fun t : String × Nat × Int32 => Cond.constant t.1 t.2.1 t.2.2) = ([86] : List Nat).filterMap (fun i => tables_1_2[i]?) := rfl
def gKi_6 : List (String × Nat × Int32) := [("java/lang/Integer", 264, 65536), ("java/lang/Integer", 265, 1431655765), ("java/lang/Integer", 266, 858993459), ("java/lang/Integer", 267, 252645135)]
set_option maxRecDepth 100000 in
set_option maxHeartbeats 4000000 in
theorem gKi_6_w : gKi_6.map (fun t : String × Nat × Int32 => Cond.constant t.1 t.2.1 t.2.2) = ([61, 95, 96, 97] : List Nat).filterMap (fun i => tables_1_6[i]?) := rfl
def gKi : List (String × Nat × Int32) := gKi_2 ++ gKi_6
theorem gKi_ok : ∀ t ∈ gKi, (fun t : String × Nat × Int32 => Cond.constant t.1 t.2.1 t.2.2) t ∈ gBig := by
  intro t ht
  rcases List.mem_append.mp ht with ht | ht
  rotate_left
  · exact gBig_of (gpc6 (gsubl gKi_6_w t ht)) rfl
  exact gBig_of (gpc2 (gsubl gKi_2_w t ht)) rfl
end
section
/-! ===== the words of the throws, the copies, the fields of the classes ===== -/
theorem gw_cpl : Cond.methodLink "ToeplitzLab$State" 54 arraycopyName ∈ gBig := gBig_of (gpc3 (List.mem_of_getElem? (i := 218) rfl)) rfl
theorem gw_cpn : Cond.native arraycopyName ∈ gBig := gBig_of (gpc2 (List.mem_of_getElem? (i := 173) rfl)) rfl
theorem gw_cps : Cond.static arraycopyName ∈ gBig := gBig_of (gpc2 (List.mem_of_getElem? (i := 172) rfl)) rfl
theorem gw_pri : Cond.fieldLink "ToeplitzLab" 164 "ToeplitzLab" "PRIMES" "[I" ∈ gBig := gBig_of (gpc4 (List.mem_of_getElem? (i := 18) rfl)) rfl
theorem gw_ari : Cond.arrayClass .int ∈ gBig := gBig_of (gpc1 (List.mem_of_getElem? (i := 109) rfl)) rfl
theorem gw_prL : Cond.fieldLink "ToeplitzLabLaw" 187 "ToeplitzLabLaw" "PRIMES" "[I" ∈ gBig := gBig_of (gpc6 (List.mem_of_getElem? (i := 42) rfl)) rfl
set_option maxRecDepth 100000 in
theorem gat_1 : ∀ w ∈ (vx_atS RX7 85 (gxn 1) ["java/lang/RuntimeException", "java/lang/Exception"]).filter goodWord, w ∈ lw_tbl := by decide +kernel
theorem gan_1 : ∀ w ∈ (vx_atS RX7 85 (gxn 1) ["java/lang/RuntimeException", "java/lang/Exception"]).filter (fun w => !goodWord w), w ∈ gNst := by decide +kernel
theorem gag_1 : ∀ w ∈ (vx_atS RX7 85 (gxn 1) ["java/lang/RuntimeException", "java/lang/Exception"]), vx_ot w = true := by decide +kernel
set_option maxRecDepth 100000 in
theorem gat_2 : ∀ w ∈ (vx_atS RX7 96 (gxn 2) ["java/lang/RuntimeException", "java/lang/Exception"]).filter goodWord, w ∈ lw_tbl := by decide +kernel
theorem gan_2 : ∀ w ∈ (vx_atS RX7 96 (gxn 2) ["java/lang/RuntimeException", "java/lang/Exception"]).filter (fun w => !goodWord w), w ∈ gNst := by decide +kernel
theorem gag_2 : ∀ w ∈ (vx_atS RX7 96 (gxn 2) ["java/lang/RuntimeException", "java/lang/Exception"]), vx_ot w = true := by decide +kernel
set_option maxRecDepth 100000 in
theorem gat_0 : ∀ w ∈ (vx_atS RX7 314 (gxn 0) ["java/lang/RuntimeException", "java/lang/Exception"]).filter goodWord, w ∈ lw_tbl := by decide +kernel
theorem gan_0 : ∀ w ∈ (vx_atS RX7 314 (gxn 0) ["java/lang/RuntimeException", "java/lang/Exception"]).filter (fun w => !goodWord w), w ∈ gNst := by decide +kernel
theorem gag_0 : ∀ w ∈ (vx_atS RX7 314 (gxn 0) ["java/lang/RuntimeException", "java/lang/Exception"]), vx_ot w = true := by decide +kernel
theorem guw_0 : ∀ w ∈ u_ws RX0 TX0 2, w ∈ lw_tbl := by decide +kernel
theorem gug_0 : ∀ w ∈ u_ws RX0 TX0 2, goodWord w = true := by decide +kernel
theorem guw_1 : ∀ w ∈ u_ws RX1 TX1 6, w ∈ lw_tbl := by decide +kernel
theorem gug_1 : ∀ w ∈ u_ws RX1 TX1 6, goodWord w = true := by decide +kernel
theorem guw_2 : ∀ w ∈ u_ws RX2 TX2 3, w ∈ lw_tbl := by decide +kernel
theorem gug_2 : ∀ w ∈ u_ws RX2 TX2 3, goodWord w = true := by decide +kernel
theorem guw_3 : ∀ w ∈ u_ws RX3 TX3 14, w ∈ lw_tbl := by decide +kernel
theorem gug_3 : ∀ w ∈ u_ws RX3 TX3 14, goodWord w = true := by decide +kernel
theorem guw_4 : ∀ w ∈ u_ws RX4 TX4 2, w ∈ lw_tbl := by decide +kernel
theorem gug_4 : ∀ w ∈ u_ws RX4 TX4 2, goodWord w = true := by decide +kernel
theorem guw_5 : ∀ w ∈ u_ws RX5 TX5 2, w ∈ lw_tbl := by decide +kernel
theorem gug_5 : ∀ w ∈ u_ws RX5 TX5 2, goodWord w = true := by decide +kernel
theorem guw_6 : ∀ w ∈ u_ws RX6 TX6 11, w ∈ lw_tbl := by decide +kernel
theorem gug_6 : ∀ w ∈ u_ws RX6 TX6 11, goodWord w = true := by decide +kernel
theorem guw_7 : ∀ w ∈ u_ws RX7 TX7 11, w ∈ lw_tbl := by decide +kernel
theorem gug_7 : ∀ w ∈ u_ws RX7 TX7 11, goodWord w = true := by decide +kernel
theorem guw_8 : ∀ w ∈ u_ws RX8 TX8 2, w ∈ lw_tbl := by decide +kernel
theorem gug_8 : ∀ w ∈ u_ws RX8 TX8 2, goodWord w = true := by decide +kernel
theorem guw_9 : ∀ w ∈ u_ws RX9 TX9 6, w ∈ lw_tbl := by decide +kernel
theorem gug_9 : ∀ w ∈ u_ws RX9 TX9 6, goodWord w = true := by decide +kernel
end
section
/-! ===== a row of code is what it seems: checks, and what they give ===== -/
theorem gCl_in {i : Nat} : gcls 7 = RX7 := rfl
theorem gnm_fit : ∀ n ∈ gnames, Bundle.fit n = true := by decide +kernel
theorem gThr_1 {is : Nat} (h : ∃ tx, (RX7, is, tx) ∈ gTxt) : gThr RX7 81 is 85 1 := by
  refine ⟨gCl_ok ("ToeplitzLab", 81, "java/lang/IndexOutOfBoundsException") (by simp [gCl, gCl_3, gCl_4]), gIn_ok "java/lang/IndexOutOfBoundsException" (by simp [gIn, gIn_1]), h, fun w hw => ?_, ?_, by decide +kernel, gnm_fit, by decide⟩
  · cases hg : goodWord w with
    | true => exact Or.inl (gBig_of (gat_1 w (List.mem_filter.mpr ⟨hw, hg⟩)) hg)
    | false => exact Or.inr (gan_1 w (List.mem_filter.mpr ⟨hw, by rw [hg]; rfl⟩))
  · intro w hw
    rcases List.mem_cons.mp hw with rfl | hw
    · rfl
    · rcases List.mem_cons.mp hw with rfl | hw
      · rfl
      · exact gag_1 w hw
theorem gThr_2 {is : Nat} (h : ∃ tx, (RX7, is, tx) ∈ gTxt) : gThr RX7 92 is 96 2 := by
  refine ⟨gCl_ok ("ToeplitzLab", 92, "java/lang/IllegalArgumentException") (by simp [gCl, gCl_3, gCl_4]), gIn_ok "java/lang/IllegalArgumentException" (by simp [gIn, gIn_1]), h, fun w hw => ?_, ?_, by decide +kernel, gnm_fit, by decide⟩
  · cases hg : goodWord w with
    | true => exact Or.inl (gBig_of (gat_2 w (List.mem_filter.mpr ⟨hw, hg⟩)) hg)
    | false => exact Or.inr (gan_2 w (List.mem_filter.mpr ⟨hw, by rw [hg]; rfl⟩))
  · intro w hw
    rcases List.mem_cons.mp hw with rfl | hw
    · rfl
    · rcases List.mem_cons.mp hw with rfl | hw
      · rfl
      · exact gag_2 w hw
theorem gThr_0 {is : Nat} (h : ∃ tx, (RX7, is, tx) ∈ gTxt) : gThr RX7 310 is 314 0 := by
  refine ⟨gCl_ok ("ToeplitzLab", 310, "java/lang/IllegalStateException") (by simp [gCl, gCl_3, gCl_4]), gIn_ok "java/lang/IllegalStateException" (by simp [gIn, gIn_1]), h, fun w hw => ?_, ?_, by decide +kernel, gnm_fit, by decide⟩
  · cases hg : goodWord w with
    | true => exact Or.inl (gBig_of (gat_0 w (List.mem_filter.mpr ⟨hw, hg⟩)) hg)
    | false => exact Or.inr (gan_0 w (List.mem_filter.mpr ⟨hw, by rw [hg]; rfl⟩))
  · intro w hw
    rcases List.mem_cons.mp hw with rfl | hw
    · rfl
    · rcases List.mem_cons.mp hw with rfl | hw
      · rfl
      · exact gag_0 w hw
def gthrT : List (Nat × Nat × Nat × Nat) := [(81, 83, 85, 1), (81, 192, 85, 1), (81, 220, 85, 1), (81, 273, 85, 1), (81, 325, 85, 1), (81, 327, 85, 1), (81, 329, 85, 1), (81, 331, 85, 1), (81, 333, 85, 1), (81, 335, 85, 1), (81, 344, 85, 1), (92, 94, 96, 2), (92, 201, 96, 2), (92, 209, 96, 2), (92, 275, 96, 2), (92, 289, 96, 2), (92, 291, 96, 2), (92, 293, 96, 2), (92, 295, 96, 2), (92, 301, 96, 2), (92, 337, 96, 2), (92, 339, 96, 2), (310, 312, 314, 0), (310, 321, 314, 0), (310, 323, 314, 0)]
theorem gthrT_ok : ∀ t ∈ gthrT, gThr RX7 t.1 t.2.1 t.2.2.1 t.2.2.2 := by
  intro t ht
  simp only [gthrT, List.mem_cons, List.not_mem_nil, or_false] at ht
  rcases ht with rfl | rfl | rfl | rfl | rfl | rfl | rfl | rfl | rfl | rfl | rfl | rfl | rfl | rfl | rfl | rfl | rfl | rfl | rfl | rfl | rfl | rfl | rfl | rfl | rfl
  · exact gThr_1 ⟨_, List.mem_of_getElem? (i := 0) rfl⟩
  · exact gThr_1 ⟨_, List.mem_of_getElem? (i := 9) rfl⟩
  · exact gThr_1 ⟨_, List.mem_of_getElem? (i := 12) rfl⟩
  · exact gThr_1 ⟨_, List.mem_of_getElem? (i := 15) rfl⟩
  · exact gThr_1 ⟨_, List.mem_of_getElem? (i := 4) rfl⟩
  · exact gThr_1 ⟨_, List.mem_of_getElem? (i := 8) rfl⟩
  · exact gThr_1 ⟨_, List.mem_of_getElem? (i := 14) rfl⟩
  · exact gThr_1 ⟨_, List.mem_of_getElem? (i := 3) rfl⟩
  · exact gThr_1 ⟨_, List.mem_of_getElem? (i := 5) rfl⟩
  · exact gThr_1 ⟨_, List.mem_of_getElem? (i := 23) rfl⟩
  · exact gThr_1 ⟨_, List.mem_of_getElem? (i := 6) rfl⟩
  · exact gThr_2 ⟨_, List.mem_of_getElem? (i := 1) rfl⟩
  · exact gThr_2 ⟨_, List.mem_of_getElem? (i := 10) rfl⟩
  · exact gThr_2 ⟨_, List.mem_of_getElem? (i := 11) rfl⟩
  · exact gThr_2 ⟨_, List.mem_of_getElem? (i := 16) rfl⟩
  · exact gThr_2 ⟨_, List.mem_of_getElem? (i := 17) rfl⟩
  · exact gThr_2 ⟨_, List.mem_of_getElem? (i := 18) rfl⟩
  · exact gThr_2 ⟨_, List.mem_of_getElem? (i := 19) rfl⟩
  · exact gThr_2 ⟨_, List.mem_of_getElem? (i := 20) rfl⟩
  · exact gThr_2 ⟨_, List.mem_of_getElem? (i := 21) rfl⟩
  · exact gThr_2 ⟨_, List.mem_of_getElem? (i := 7) rfl⟩
  · exact gThr_2 ⟨_, List.mem_of_getElem? (i := 13) rfl⟩
  · exact gThr_0 ⟨_, List.mem_of_getElem? (i := 22) rfl⟩
  · exact gThr_0 ⟨_, List.mem_of_getElem? (i := 24) rfl⟩
  · exact gThr_0 ⟨_, List.mem_of_getElem? (i := 2) rfl⟩
def gsz (ci : Nat) : Nat := ([2, 6, 3, 14, 2, 2, 11, 11, 2, 6] : List Nat).getD ci 0
theorem gFl_of {own : String} {n ci b : Nat} (hci : ci < 10) (hb2 : b < gsz ci) (hw : Cond.fieldLink own n (gTX ci b).1 (gTX ci b).2.1 (gTX ci b).2.2.1 ∈ gBig ∨ ∃ host, Cond.fieldLinkNest own n (gTX ci b).1 (gTX ci b).2.1 (gTX ci b).2.2.1 host ∈ gNst) : gFl own n ci b := by
  match ci, hci with
  | 0, _ => exact ⟨RX0, TX0, 2, tyX0, rfl, fun w h => gBig_of (guw_0 w h) (gug_0 w h), hb2, tyX0_ok, nmX0, hw⟩
  | 1, _ => exact ⟨RX1, TX1, 6, tyX1, rfl, fun w h => gBig_of (guw_1 w h) (gug_1 w h), hb2, tyX1_ok, nmX1, hw⟩
  | 2, _ => exact ⟨RX2, TX2, 3, tyX2, rfl, fun w h => gBig_of (guw_2 w h) (gug_2 w h), hb2, tyX2_ok, nmX2, hw⟩
  | 3, _ => exact ⟨RX3, TX3, 14, tyX3, rfl, fun w h => gBig_of (guw_3 w h) (gug_3 w h), hb2, tyX3_ok, nmX3, hw⟩
  | 4, _ => exact ⟨RX4, TX4, 2, tyX4, rfl, fun w h => gBig_of (guw_4 w h) (gug_4 w h), hb2, tyX4_ok, nmX4, hw⟩
  | 5, _ => exact ⟨RX5, TX5, 2, tyX5, rfl, fun w h => gBig_of (guw_5 w h) (gug_5 w h), hb2, tyX5_ok, nmX5, hw⟩
  | 6, _ => exact ⟨RX6, TX6, 11, tyX6, rfl, fun w h => gBig_of (guw_6 w h) (gug_6 w h), hb2, tyX6_ok, nmX6, hw⟩
  | 7, _ => exact ⟨RX7, TX7, 11, tyX7, rfl, fun w h => gBig_of (guw_7 w h) (gug_7 w h), hb2, tyX7_ok, nmX7, hw⟩
  | 8, _ => exact ⟨RX8, TX8, 2, tyX8, rfl, fun w h => gBig_of (guw_8 w h) (gug_8 w h), hb2, tyX8_ok, nmX8, hw⟩
  | 9, _ => exact ⟨RX9, TX9, 6, tyX9, rfl, fun w h => gBig_of (guw_9 w h) (gug_9 w h), hb2, tyX9_ok, nmX9, hw⟩
def gFWt : List (Nat × Nat × Nat) := [(1, 1, 0), (1, 2, 0), (1, 3, 0), (1, 4, 0), (1, 5, 0), (2, 1, 0), (2, 2, 0), (3, 1, 0), (3, 3, 0), (3, 4, 0), (3, 5, 0), (3, 6, 0), (3, 7, 0), (3, 8, 0), (3, 9, 0), (3, 10, 0), (3, 11, 0), (3, 12, 0), (3, 13, 0), (6, 0, 0), (6, 1, 0), (6, 5, 0), (6, 6, 1), (6, 9, 0), (8, 1, 0), (9, 4, 0), (9, 5, 0)]
theorem gFWt_ok : ∀ t ∈ gFWt, gFw t.1 t.2.1 (gFt t.2.2) := by
  intro t ht
  simp only [gFWt, List.mem_cons, List.not_mem_nil, or_false] at ht
  rcases ht with rfl | rfl | rfl | rfl | rfl | rfl | rfl | rfl | rfl | rfl | rfl | rfl | rfl | rfl | rfl | rfl | rfl | rfl | rfl | rfl | rfl | rfl | rfl | rfl | rfl | rfl | rfl
  · exact ⟨RX1, TX1, 6, rfl, rfl, tyX1_ok 1 (by decide)⟩
  · exact ⟨RX1, TX1, 6, rfl, rfl, tyX1_ok 2 (by decide)⟩
  · exact ⟨RX1, TX1, 6, rfl, rfl, tyX1_ok 3 (by decide)⟩
  · exact ⟨RX1, TX1, 6, rfl, rfl, tyX1_ok 4 (by decide)⟩
  · exact ⟨RX1, TX1, 6, rfl, rfl, tyX1_ok 5 (by decide)⟩
  · exact ⟨RX2, TX2, 3, rfl, rfl, tyX2_ok 1 (by decide)⟩
  · exact ⟨RX2, TX2, 3, rfl, rfl, tyX2_ok 2 (by decide)⟩
  · exact ⟨RX3, TX3, 14, rfl, rfl, tyX3_ok 1 (by decide)⟩
  · exact ⟨RX3, TX3, 14, rfl, rfl, tyX3_ok 3 (by decide)⟩
  · exact ⟨RX3, TX3, 14, rfl, rfl, tyX3_ok 4 (by decide)⟩
  · exact ⟨RX3, TX3, 14, rfl, rfl, tyX3_ok 5 (by decide)⟩
  · exact ⟨RX3, TX3, 14, rfl, rfl, tyX3_ok 6 (by decide)⟩
  · exact ⟨RX3, TX3, 14, rfl, rfl, tyX3_ok 7 (by decide)⟩
  · exact ⟨RX3, TX3, 14, rfl, rfl, tyX3_ok 8 (by decide)⟩
  · exact ⟨RX3, TX3, 14, rfl, rfl, tyX3_ok 9 (by decide)⟩
  · exact ⟨RX3, TX3, 14, rfl, rfl, tyX3_ok 10 (by decide)⟩
  · exact ⟨RX3, TX3, 14, rfl, rfl, tyX3_ok 11 (by decide)⟩
  · exact ⟨RX3, TX3, 14, rfl, rfl, tyX3_ok 12 (by decide)⟩
  · exact ⟨RX3, TX3, 14, rfl, rfl, tyX3_ok 13 (by decide)⟩
  · exact ⟨RX6, TX6, 11, rfl, rfl, tyX6_ok 0 (by decide)⟩
  · exact ⟨RX6, TX6, 11, rfl, rfl, tyX6_ok 1 (by decide)⟩
  · exact ⟨RX6, TX6, 11, rfl, rfl, tyX6_ok 5 (by decide)⟩
  · exact ⟨RX6, TX6, 11, rfl, rfl, tyX6_ok 6 (by decide)⟩
  · exact ⟨RX6, TX6, 11, rfl, rfl, tyX6_ok 9 (by decide)⟩
  · exact ⟨RX8, TX8, 2, rfl, rfl, tyX8_ok 1 (by decide)⟩
  · exact ⟨RX9, TX9, 6, rfl, rfl, tyX9_ok 4 (by decide)⟩
  · exact ⟨RX9, TX9, 6, rfl, rfl, tyX9_ok 5 (by decide)⟩
def gnpT : List Nat := [2, 1, 3, 2, 2, 2, 4, 0, 2, 3, 0, 1, 3, 3, 2, 1, 1, 1, 1, 0, 0, 1, 1, 0, 0, 1, 0, 2, 3, 1, 1, 0, 3, 0, 1, 1, 2, 1, 2, 2, 3, 2, 5, 3, 0, 1, 1, 2, 0, 0, 2, 1, 5, 1, 0, 0, 0, 0, 0, 1, 2, 1, 1, 1, 0, 0, 0, 1, 0, 0, 0, 3, 3, 3, 1, 4, 0, 1, 2, 1, 0, 0, 0, 2, 1, 1, 0, 1, 0, 0, 0, 0, 1, 2, 1, 0, 0, 2, 2, 2, 2, 1, 3, 0, 0, 1, 0, 0, 1, 1, 0, 1, 2, 1, 1, 1, 1, 2, 1, 0, 1, 2, 2, 0, 1, 1, 1, 0, 1, 1, 0, 2, 2, 2, 1, 1, 2, 2, 2, 2, 2, 2, 1, 1, 0, 1, 0, 1, 2, 2, 5, 5, 2, 3, 3, 3, 2, 2, 2, 0, 0, 0, 0, 0, 0, 0, 0, 0, 0, 0, 1, 1, 0, 0, 0, 0, 0, 0, 0, 0, 0, 0, 0, 0, 0, 0, 0, 0, 0, 0, 0, 0, 0, 0, 0, 0, 0, 0, 0, 0, 0, 0, 0, 0, 0, 0, 0, 0, 0, 0, 0, 0, 0, 0, 0, 0, 0, 0, 0, 0, 0, 0, 0, 0, 0, 0, 0, 0, 0, 0, 0, 0, 0, 0, 0, 0, 0, 0, 0, 0, 0, 0, 0, 0, 0, 0, 0, 0, 0, 0, 0, 0, 0, 0, 0, 0, 0, 0, 0, 0, 0, 0, 0, 0, 0, 0, 0, 0, 0, 0, 0, 0, 0, 0, 0, 0, 0, 0, 0, 0, 0, 0, 0, 0, 0, 0, 0, 0, 0, 0, 0, 0, 0, 0, 0, 0, 0, 0, 0, 0, 0, 0, 0, 0, 2, 1, 1, 2, 2, 2, 2, 0, 1, 1]
def hnp (y : Nat) : Nat := gnpT.getD y 0
set_option maxRecDepth 100000 in
theorem hnp_ok : ∀ y, y < 314 → (parseMethodDescriptor (hy y).desc).map (fun d => d.parameters.length) = some (hnp y) := by decide +kernel
set_option maxRecDepth 100000 in
theorem hcl_l : (List.range 314).map (fun y => (hy y).cls) = (List.range 314).map (fun y => gcls (hcl y)) := rfl
theorem hcl_ok {y : Nat} (h : y < 314) : (hy y).cls = gcls (hcl y) := by
  have h1 := congrArg (fun l => l[y]?) hcl_l
  simp only [List.getElem?_map, List.getElem?_range h, Option.map_some, Option.some.injEq] at h1
  exact h1
theorem gcls_n : ∀ i, i < 15 → gcls i ≠ "java/lang/invoke/MethodHandle" ∧ gcls i ≠ "java/lang/invoke/VarHandle" := by decide +kernel
theorem hcl_lt : ∀ y, y < 314 → hcl y < 15 := by decide +kernel
theorem gIn_cl : ∀ i, i < 15 → Cond.initialized (gcls i) ∈ gBig := by
  intro i hi
  match i, hi with
  | 0, _ => exact gBig_of (gpc1 (List.mem_of_getElem? (i := 21) rfl)) rfl
  | 1, _ => exact gBig_of (gpc1 (List.mem_of_getElem? (i := 19) rfl)) rfl
  | 2, _ => exact gBig_of (gpc1 (List.mem_of_getElem? (i := 18) rfl)) rfl
  | 3, _ => exact gBig_of (gpc1 (List.mem_of_getElem? (i := 16) rfl)) rfl
  | 4, _ => exact gBig_of (gpc1 (List.mem_of_getElem? (i := 22) rfl)) rfl
  | 5, _ => exact gBig_of (gpc1 (List.mem_of_getElem? (i := 20) rfl)) rfl
  | 6, _ => exact gBig_of (gpc1 (List.mem_of_getElem? (i := 17) rfl)) rfl
  | 7, _ => exact gBig_of (gpc1 (List.mem_of_getElem? (i := 15) rfl)) rfl
  | 8, _ => exact gBig_of (gpc1 (List.mem_of_getElem? (i := 1) rfl)) rfl
  | 9, _ => exact gBig_of (gpc1 (List.mem_of_getElem? (i := 0) rfl)) rfl
  | 10, _ => exact gBig_of (gpc1 (List.mem_of_getElem? (i := 8) rfl)) rfl
  | 11, _ => exact gBig_of (gpc1 (List.mem_of_getElem? (i := 9) rfl)) rfl
  | 12, _ => exact gBig_of (gpc1 (List.mem_of_getElem? (i := 5) rfl)) rfl
  | 13, _ => exact gBig_of (gpc1 (List.mem_of_getElem? (i := 2) rfl)) rfl
  | 14, _ => exact gBig_of (gpc1 (List.mem_of_getElem? (i := 14) rfl)) rfl
theorem gCe_ok {y2 : Nat} (h : y2 < 314) : gCe y2 (hnp y2) := by
  unfold gCe
  rw [hcl_ok h]
  exact ⟨(gcls_n _ (hcl_lt y2 h)).1, (gcls_n _ (hcl_lt y2 h)).2, hnp_ok y2 h⟩
theorem gin_y {y2 : Nat} (h : y2 < 314) : Cond.initialized (hy y2).cls ∈ gBig := by
  rw [hcl_ok h]
  exact gIn_cl _ (hcl_lt y2 h)
def gNlink : List (Nat × Nat × Nat) := [(1, 41, 121), (3, 94, 120), (4, 62, 121), (5, 50, 121)]
theorem gNlink_ok : ∀ t ∈ gNlink, ∃ host, Cond.methodLinkNest (gcls t.1) t.2.1 (hy t.2.2) host ∈ gNst := by
  intro t ht
  simp only [gNlink, List.mem_cons, List.not_mem_nil, or_false] at ht
  rcases ht with rfl | rfl | rfl | rfl
  · exact ⟨"ToeplitzLab", List.mem_of_getElem? (i := 1) rfl⟩
  · exact ⟨"ToeplitzLab", List.mem_of_getElem? (i := 4) rfl⟩
  · exact ⟨"ToeplitzLab", List.mem_of_getElem? (i := 2) rfl⟩
  · exact ⟨"ToeplitzLab", List.mem_of_getElem? (i := 3) rfl⟩
end
section
/-! ===== one row of code: its check, and that it does what gsem says ===== -/
def gtgt (pc : Nat) (off : Int) (a : Nat) : Bool := decide ((pc : Int) + off = (a : Int))
def gvI (v : gV) (k : Int32 → Bool) : Bool := match v with
  | .inl (.int x) => k x
  | _ => false
def gvL (v : gV) (k : Int64 → Bool) : Bool := match v with
  | .inl (.long x) => k x
  | _ => false
/-- the kind that a method is called upon -/
def gclc (a k : Nat) : Bool := match gobj k with
  | some (ci, _) => match vwCl[ci]? with
    | some z => decide (z.1 = gcls (hcl a))
    | none => false
  | none => Nat.beq k 2 && Nat.beq (hcl a) 12
/-- a call's tag and room -/
def gcalc (y a : Nat) (v : gV) : Bool := match v with
  | .inr (tag, m1, m2) => Nat.beq m1 (hmc a) && (Nat.beq m2 (hms a) && ((Nat.blt 0 m1 || Nat.beq m2 0) && ((Nat.beq tag 0 == (hr a).isNone) && (Nat.ble (hfr a + 1) (hfr y) && Nat.ble (8 + (hml a + 11) + hlo a) (hlo y)))))
  | _ => false
/-- the check of a row, by its instruction -/
def gck2 (y : Nat) (e : gE) (rest : List gE) : Bool :=
  let a := e.2.2.2.1
  let b := e.2.2.2.2.1
  let v := e.2.2.2.2.2
  match e.2.2.1 with
  | .iconst n => Nat.beq e.2.1 1 && gvI v fun x => decide (Int32.ofInt n = x)
  | .bipush n => Nat.beq e.2.1 2 && gvI v fun x => decide ((Int8.ofInt n).toInt32 = x)
  | .sipush n => Nat.beq e.2.1 3 && gvI v fun x => decide ((Int16.ofInt n).toInt32 = x)
  | .lconst n => Nat.beq e.2.1 1 && gvL v fun x => decide (Int64.ofNat (n : Nat) = x)
  | .dconst n => Nat.beq e.2.1 1 && Nat.beq (n : Nat) 0
  | .ldc n => Nat.beq e.2.1 2 && match v with
    | .inr (2, k, 0) => gTx2.any (fun q => decide (q.1 = (hy y).cls) && (Nat.beq q.2.1 n && Nat.beq q.2.2.2 k))
    | .inr _ => false
    | .inl (.int x) => gKi.any (fun q => decide (q.1 = (hy y).cls) && (Nat.beq q.2.1 n && decide (q.2.2 = x)))
    | _ => true
  | .ldc2_w n => Nat.beq e.2.1 3 && gvL v fun x => gKl.any (fun q => decide (q.1 = (hy y).cls) && (Nat.beq q.2.1 n && decide (q.2.2 = x)))
  | .getstatic n => Nat.beq e.2.1 3 && (decide ((n, hcl y, a) = ((164, 7, 0) : Nat × Nat × Nat)) || decide ((n, hcl y, a) = ((187, 9, 1) : Nat × Nat × Nat)))
  | .iload_n j => Nat.beq e.2.1 1 && Nat.beq (j : Nat) a
  | .lload_n j => Nat.beq e.2.1 1 && Nat.beq (j : Nat) a
  | .aload_n j => Nat.beq e.2.1 1 && Nat.beq (j : Nat) a
  | .iload j => Nat.beq e.2.1 2 && Nat.beq j a
  | .lload j => Nat.beq e.2.1 2 && Nat.beq j a
  | .dload j => Nat.beq e.2.1 2 && Nat.beq j a
  | .aload j => Nat.beq e.2.1 2 && Nat.beq j a
  | .istore_n j => Nat.beq e.2.1 1 && (Nat.beq (j : Nat) a && Nat.blt a (hml y))
  | .astore_n j => Nat.beq e.2.1 1 && (Nat.beq (j : Nat) a && Nat.blt a (hml y))
  | .lstore_n j => Nat.beq e.2.1 1 && (Nat.beq (j : Nat) a && Nat.blt (a + 1) (hml y))
  | .istore j => Nat.beq e.2.1 2 && (Nat.beq j a && Nat.blt a (hml y))
  | .astore j => Nat.beq e.2.1 2 && (Nat.beq j a && Nat.blt a (hml y))
  | .lstore j => Nat.beq e.2.1 2 && (Nat.beq j a && Nat.blt (a + 1) (hml y))
  | .dstore j => Nat.beq e.2.1 2 && (Nat.beq j a && Nat.blt (a + 1) (hml y))
  | .iinc j n => Nat.beq e.2.1 3 && (Nat.beq j a && (Nat.blt a (hml y) && gvI v fun x => decide (Int32.ofInt n = x)))
  | .ifCond _ off => Nat.beq e.2.1 3 && gtgt e.1 off a
  | .if_icmp _ off => Nat.beq e.2.1 3 && gtgt e.1 off a
  | .goto off => Nat.beq e.2.1 3 && gtgt e.1 off a
  | .ifnull off => Nat.beq e.2.1 3 && gtgt e.1 off a
  | .ifnonnull off => Nat.beq e.2.1 3 && gtgt e.1 off a
  | .tableswitch d lo hi offs => decide (0 ≤ (e.1 : Int) + d) && (offs.toList.all (fun o => decide (0 ≤ (e.1 : Int) + o)) && decide (hi = lo + (offs.size : Int) - 1))
  | .getfield n => Nat.beq e.2.1 3 && match gobj a with
    | some (ci, _) => Nat.blt ci 10 && (Nat.blt b (gsz ci) && (gFT.contains (hcl y, n, ci, b) || gFN.contains (hcl y, n, ci, b)))
    | none => false
  | .putfield n => Nat.beq e.2.1 3 && match gobj a with
    | some (ci, fl) => Nat.blt ci 10 && (Nat.blt b (gsz ci) && ((gFT.contains (hcl y, n, ci, b) || gFN.contains (hcl y, n, ci, b)) && match fl[b]? with
      | some u => Nat.blt 2 u.1 || gFWt.contains (ci, b, u.1)
      | none => true))
    | none => false
  | .invokevirtual n => Nat.beq e.2.1 3 && (Nat.blt a 314 && (gYc.contains a && (gML.contains (hcl y, n, a) && (gYi.contains a && ((gYp.contains a || gYq.contains a) && (Nat.beq (b % 16) (hnp a + 1) && (Nat.blt 0 (b / 16) && gclc a (b / 16) && gcalc y a v)))))))
  | .invokestatic n => Nat.beq e.2.1 3 && (if b = 9 then decide (n = 54 ∧ hcl y = 6) && (Nat.ble 1 (hfr y) && Nat.ble 26 (hlo y)) else (Nat.blt a 314 && (gYs.contains a && (Nat.beq (b % 16) (hnp a) && (Nat.beq (b / 16) 0 && gcalc y a v))) && ((gYc.contains a && (gML.contains (hcl y, n, a) || gNlink.contains (hcl y, n, a))) || (gYx.contains a && gML.contains (hcl y, n, a)))))
  | .ireturn => Nat.beq e.2.1 1 && (decide (hr y = some .int) || decide (hr y = some .boolean))
  | .lreturn => Nat.beq e.2.1 1 && decide (hr y = some .long)
  | .dreturn => Nat.beq e.2.1 1 && decide (hr y = some .double)
  | .areturn => Nat.beq e.2.1 1 && decide (hr y = some (.object "ToeplitzLab$State"))
  | .return_ => Nat.beq e.2.1 1 && decide (hr y = none)
  | .new ik => match a with
    | 1 => Nat.beq (hcl y) 7 && ((hht y).isEmpty && (Nat.blt 5 (hfr y) && (Nat.ble 82 (hlo y) && (match rest with
      | (p3, l3, .dup, _) :: (p4, l4, .ldc is, _) :: (p6, l6, .invokespecial ic, _) :: (p9, l9, .athrow, _) :: _ => Nat.beq p3 (e.1 + 3) && (Nat.beq l3 1 && (Nat.beq p4 (e.1 + 4) && (Nat.beq l4 2 && (Nat.beq p6 (e.1 + 6) && (Nat.beq l6 3 && (Nat.beq p9 (e.1 + 9) && (Nat.beq l9 1 && gthrT.contains (ik, is, ic, b))))))))
      | (p3, l3, .dup, _) :: (p4, l4, .ldc_w is, _) :: (p6, l6, .invokespecial ic, _) :: (p9, l9, .athrow, _) :: _ => Nat.beq p3 (e.1 + 3) && (Nat.beq l3 1 && (Nat.beq p4 (e.1 + 4) && (Nat.beq l4 3 && (Nat.beq p6 (e.1 + 7) && (Nat.beq l6 3 && (Nat.beq p9 (e.1 + 10) && (Nat.beq l9 1 && gthrT.contains (ik, is, ic, b))))))))
      | _ => false))))
    | _ => Nat.ble 3 (hfr y) && (Nat.ble 40 (hlo y) && (match rest with
      | (p3, l3, .dup, _) :: (p4, l4, .invokespecial ic, _) :: rest2 => Nat.beq p3 (e.1 + 3) && (Nat.beq l3 1 && (Nat.beq p4 (e.1 + 4) && (Nat.beq l4 3 && ((decide ((hcl y, ik, ic) = ((2, 9, 21) : Nat × Nat × Nat)) || decide ((hcl y, ik, ic) = ((7, 16, 18) : Nat × Nat × Nat))) && (match rest2 with
        | e7 :: _ => Nat.beq e7.1 (e.1 + 7)
        | [] => true)))))
      | _ => false))
  | .invokespecial _ => true
  | .ldc_w n => match v with
    | .inl (.int x) => Nat.beq e.2.1 3 && gKi.any (fun q => decide (q.1 = (hy y).cls) && (Nat.beq q.2.1 n && decide (q.2.2 = x)))
    | _ => true
  | .newarray t => Nat.beq e.2.1 2 && (decide (t = .int) && ((Nat.beq a 53 && Nat.beq b 7) || (Nat.beq a 54 && Nat.beq b 5)))
  | _ => Nat.beq e.2.1 1
def gck1 (y : Nat) (e : gE) (rest : List gE) : Bool := decide (decode (hb y) e.1 = .ok (e.2.2.1, e.2.1)) && ((match rest with
  | [] => true
  | e2 :: _ => Nat.beq e2.1 (e.1 + e.2.1)) && gck2 y e rest)
def gckL (y : Nat) : List gE → Bool
  | [] => true
  | e :: rest => gck1 y e rest && gckL y rest
end
section
/-! ===== one row of code does what gsem says ===== -/
/-- a new state: from 'new' over its constructor (proved in another part) -/
def gNewOK (E : gEn) : Prop := ∀ (y pc : Nat) (ls : List (Nat × gV)) (st : List gV) (I : gI) (J : gJ) (B : gB) (c w : Nat) (Q : gQt) (X : gXt) (ik ic m : Nat), ((hcl y, ik, ic) = ((2, 9, 21) : Nat × Nat × Nat) ∨ (hcl y, ik, ic) = ((7, 16, 18) : Nat × Nat × Nat)) → (hy y).cls = gcls (hcl y) →
  decode (hb y) pc = .ok (.new ik, 3) → decode (hb y) (pc + 3) = .ok (.dup, 1) → decode (hb y) (pc + 4) = .ok (.invokespecial ic, 3) → 3 ≤ hfr y → 40 ≤ hlo y → gsum st ≤ 6 → (3 ≤ m ∧ m ≤ 12 ∧ B m = false) → (c + 7 ≤ hmc y ∧ w + 142 ≤ hms y) →
  gG E y (pc + 7) ls (.inr (6, m, 0) :: st) (gnwI I m) (gnwJ J m) (gUB B m) (c + 7) (w + 142) Q X → gG E y pc ls st I J B c w Q X
theorem gtop_e {st : List gV} {k : gV → List gV → Prop} (h : gtop st k) : ∃ v r, st = v :: r ∧ k v r := by
  unfold gtop at h
  split at h
  · exact ⟨_, _, rfl, h⟩
  · exact absurd h id
theorem gpi_e {st : List gV} {k : Int32 → List gV → Prop} (h : gpi st k) : ∃ x r, st = .inl (.int x) :: r ∧ k x r := by
  obtain ⟨v, r, rfl, h⟩ := gtop_e h
  obtain ⟨x, rfl, h⟩ := gvi_e h
  exact ⟨x, r, rfl, h⟩
theorem gpl_e {st : List gV} {k : Int64 → List gV → Prop} (h : gpl st k) : ∃ x r, st = .inl (.long x) :: r ∧ k x r := by
  obtain ⟨v, r, rfl, h⟩ := gtop_e h
  obtain ⟨x, rfl, h⟩ := gvl_e h
  exact ⟨x, r, rfl, h⟩
theorem gpd_e {st : List gV} {k : UInt64 → List gV → Prop} (h : gpd st k) : ∃ x r, st = .inl (.double x) :: r ∧ k x r := by
  obtain ⟨v, r, rfl, h⟩ := gtop_e h
  obtain ⟨x, rfl, h⟩ := gvd_e h
  exact ⟨x, r, rfl, h⟩
theorem gpr_e {st : List gV} {k : gR → List gV → Prop} (h : gpr st k) : ∃ x r, st = .inr x :: r ∧ k x r := by
  obtain ⟨v, r, rfl, h⟩ := gtop_e h
  obtain ⟨x, rfl, h⟩ := gvr_e h
  exact ⟨x, r, rfl, h⟩
theorem gno_e {st : List gV} {k : Prop} (h : gno st k) : st = [] ∧ k := by
  unfold gno at h
  split at h
  · exact ⟨rfl, h⟩
  · exact absurd h id
theorem gldv_e {ls : List (Nat × gV)} {a : Nat} {k : gV → Prop} (h : gldv ls a k) : ∃ v, ls.lookup a = some v ∧ k v := by
  unfold gldv at h
  split at h
  · rename_i v e
    exact ⟨v, e, h⟩
  · exact absurd h id
theorem gvI_e {v : gV} {k : Int32 → Bool} (h : gvI v k = true) {x : Int32} (e : v = .inl (.int x)) : k x = true := by
  subst e
  exact h
theorem gvL_e {v : gV} {k : Int64 → Bool} (h : gvL v k = true) {x : Int64} (e : v = .inl (.long x)) : k x = true := by
  subst e
  exact h
theorem gband {a b : Bool} (h : (a && b) = true) : a = true ∧ b = true := Bool.and_eq_true_iff.mp h
theorem gto_h {cd : List gE} {t : Nat} {e : gE} {r : List gE} (h : gto cd t = e :: r) : e.1 = t := by
  unfold gto at h
  have h1 := List.head?_dropWhile_not (fun e : gE => !(Nat.beq e.1 t)) cd
  rw [h] at h1
  simp only [List.head?_cons] at h1
  exact Nat.eq_of_beq_eq_true (by simpa using h1)
theorem gto_s {cd : List gE} {t : Nat} : ∃ pre, cd = pre ++ gto cd t := ⟨cd.takeWhile (fun e => !(Nat.beq e.1 t)), (List.takeWhile_append_dropWhile).symm⟩
theorem gckL_at {y : Nat} : ∀ {pre : List gE} {e : gE} {rest : List gE}, gckL y (pre ++ e :: rest) = true → gck1 y e rest = true
  | [], e, rest, h => (gband h).1
  | _ :: pre, e, rest, h => gckL_at (pre := pre) (gband h).2
section GS
variable {E : gEn} {y : Nat} {cd : List gE} {hs : gH} {bo : Bool} {Q : gQt} {X : gXt} {e : gE} {rest : List gE} {go : List gE → gM} {ls : List (Nat × gV)} {st : List gV} {I : gI} {J : gJ} {B : gB} {c w : Nat}
/-- going on to a row that stands in the code -/
def gGo (E : gEn) (y : Nat) (cd : List gE) (Q : gQt) (X : gXt) (go : List gE → gM) : Prop := ∀ (cur : List gE) (ls : List (Nat × gV)) (st : List gV) (I : gI) (J : gJ) (B : gB) (c w : Nat), (∃ pre, cd = pre ++ cur) → go cur ls st I J B c w → ∃ e r, cur = e :: r ∧ gG E y e.1 ls st I J B c w Q X
theorem gGo.nx (hgo : gGo E y cd Q X go) (hsuf : ∃ pre, cd = pre ++ e :: rest) (hck : gck1 y e rest = true) (h : go rest ls st I J B c w) : gG E y (e.1 + e.2.1) ls st I J B c w Q X := by
  obtain ⟨pre, hp⟩ := hsuf
  obtain ⟨e2, r2, rfl, hG⟩ := hgo rest ls st I J B c w ⟨pre ++ [e], by rw [hp]; simp⟩ h
  have h2 := (gband (gband hck).2).1
  rw [← Nat.eq_of_beq_eq_true h2]
  exact hG
theorem gGo.jm {t : Nat} (hgo : gGo E y cd Q X go) (h : go (gto cd t) ls st I J B c w) : gG E y t ls st I J B c w Q X := by
  obtain ⟨e2, r2, he, hG⟩ := hgo (gto cd t) ls st I J B c w gto_s h
  rw [← gto_h he]
  exact hG
theorem gdec (hck : gck1 y e rest = true) : decode (hb y) e.1 = .ok (e.2.2.1, e.2.1) := of_decide_eq_true (gband hck).1

end GS
end
section
/-! ===== a new row of numbers ===== -/
def gadA (ad : gR → Nat) (m q : Nat) : gR → Nat := fun r => if 3 ≤ r.1 ∧ r.2.1 = m then q else ad r
theorem gadA_n {ad : gR → Nat} {m q : Nat} {r : gR} (h : r.2.1 ≠ m) : gadA ad m q r = ad r := if_neg (fun z => h z.2)
theorem gadA_k {ad : gR → Nat} {m q : Nat} {r : gR} (h : r.1 ≤ 2) : gadA ad m q r = ad r := if_neg (fun z => by omega)
theorem gall_tmp : ∀ r ∈ gall, 100 ≤ r.2.1 → r = (if r.2.1 < 400 then 53 else 54, r.2.1, 0) := by decide +kernel
theorem gidsA_nm {B : gB} {m : Nat} {r : gR} (h : r ∈ gids B) (h3 : 100 ≤ m) (hB : B m = false) : r.2.1 ≠ m := by
  intro e
  have h2 := (List.mem_filter.mp h).2
  rw [e, hB, Bool.or_false] at h2
  have := Nat.le_of_ble_eq_true h2
  omega
theorem garr_6A {k n rk : Nat} (h : garr k = some (6, n, rk)) : 3 ≤ rk ∧ rk + n ≤ 13 := gall_sts k n rk h
theorem genc_newA {ca : Nat → ClassId} {ad : gR → Nat} {I : gI} {J : gJ} {B : gB} {k m q : Nat} {r : gR} (hr : r ∈ gids B) (h3 : 100 ≤ m) (hB : B m = false) :
    genc ca (gadA ad m q) (gnaI I k m) J (gUB B m) r = genc ca ad I J B r := by
  have hn := gidsA_nm hr h3 hB
  have hI : ∀ c j, gnaI I k m r.1 r.2.1 c j = I r.1 r.2.1 c j := fun c j => if_neg (fun z => hn z.2)
  cases ho : gobj r.1 with
  | some z =>
    obtain ⟨ci, fl⟩ := z
    rw [genc_obj ho, genc_obj ho]
    congr 2
    apply List.ext_getElem?
    intro b
    cases hf : fl[b]? with
    | none =>
      rw [List.getElem?_eq_none (by rw [gfvals_len]; exact List.getElem?_eq_none_iff.mp hf), List.getElem?_eq_none (by rw [gfvals_len]; exact List.getElem?_eq_none_iff.mp hf)]
    | some z =>
      rw [gfvals_get hf, gfvals_get hf]
      congr 1
      unfold gfval
      rw [hI]
      split
      · rfl
      · split
        · rfl
        · rename_i h100
          by_cases h103 : 103 ≤ z.1
          · rw [gadA_n (gidsA_nm (gids_ref hr ho (List.mem_of_getElem? hf) h103) h3 hB)]
          · rw [gadA_k (show z.1 - 100 ≤ 2 by omega)]
  | none =>
    cases ha : garr r.1 with
    | none =>
      unfold genc
      rw [ho, ha]
    | some z =>
      obtain ⟨t, n, rk⟩ := z
      rw [genc_arr ha, genc_arr ha]
      have hI2 : gnaI I k m r.1 r.2.1 r.2.2 = I r.1 r.2.1 r.2.2 := funext fun j => hI _ j
      unfold garrE
      rw [hI2]
      split
      · rfl
      · rfl
      · rfl
      · rfl
      · rfl
      · congr 7
        funext j
        rw [gadA_n (show ((rk, r.2.1, j) : gR).2.1 ≠ m from hn)]
      · rename_i g0 g1 g2 g3 g4 g5
        congr 7
        funext j
        have h6 : t = 6 := by
          unfold garr at ha
          split at ha <;> first | (cases ha; done) | (cases ha; first | rfl | exact absurd rfl g0 | exact absurd rfl g1 | exact absurd rfl g2 | exact absurd rfl g3 | exact absurd rfl g4 | exact absurd rfl g5)
        subst h6
        obtain ⟨b1, b2⟩ := garr_6A ha
        by_cases hj : j < n
        · rw [show gUB B m (rk + j + 17) = B (rk + j + 17) from if_neg (by omega), gadA_n (show ((6, rk + j, 0) : gR).2.1 ≠ m by show rk + j ≠ m; omega)]
        · have e : Nat.blt j n = false := by
            cases h : Nat.blt j n with
            | false => rfl
            | true => exact absurd (Nat.le_of_ble_eq_true h) (by omega)
          rw [e]; rfl
theorem gids_newA {B : gB} {k m : Nat} (h3 : 100 ≤ m) (hg : (k, m, 0) ∈ gall) {r : gR} (h : r ∈ gids (gUB B m)) : r ∈ gids B ∨ r = (k, m, 0) := by
  obtain ⟨h1, h2⟩ := List.mem_filter.mp h
  by_cases hm : r.2.1 = m
  · refine Or.inr ?_
    have e1 := gall_tmp r h1 (by omega)
    have e2 := gall_tmp _ hg h3
    rw [hm] at e1
    exact e1.trans e2.symm
  · refine Or.inl (List.mem_filter.mpr ⟨h1, ?_⟩)
    rw [show gUB B m r.2.1 = B r.2.1 from if_neg hm] at h2
    exact h2
theorem gids_inA {B : gB} {k m : Nat} (hg : (k, m, 0) ∈ gall) : (k, m, 0) ∈ gids (gUB B m) := List.mem_filter.mpr ⟨hg, by show (Nat.blt m 3 || gUB B m m) = true; rw [show gUB B m m = true from if_pos rfl, Bool.or_true]⟩
theorem gRep.newA {E : gEn} {ad : gR → Nat} {I : gI} {J : gJ} {B : gB} {k m q n : Nat} {H : Heap} (hP : va_P (gD E) vwCl (gws E ad I J B ++ [(q, .inl (gca E 0, n, .inl (fun _ => 0)))]) H) (hD : va_D (gA E) (gws E ad I J B ++ [(q, .inl (gca E 0, n, .inl (fun _ => 0)))])) (hx : ∀ r : gR, r.1 ≤ 2 → ad r = gax E r) (hk : gBok B)
    (ha : garr k = some (0, n, 0)) (h3 : 100 ≤ m) (hg : (k, m, 0) ∈ gall) (hB : B m = false) : gRep E (gadA ad m q) (gnaI I k m) J (gUB B m) H := by
  have hk3 : 3 ≤ k := garr_k3 ha
  have hl : (gws E ad I J B).length = (gids B).length := by unfold gws; rw [List.length_map]
  have key : ∀ r ∈ gids (gUB B m), ∃ i, (gws E ad I J B ++ [(q, .inl (gca E 0, n, .inl (fun _ => 0)))])[i]? = some (gadA ad m q r, genc (gca E) (gadA ad m q) (gnaI I k m) J (gUB B m) r) ∧ ((∃ k0, i = k0 ∧ (gids B)[k0]? = some r) ∨ (r = (k, m, 0) ∧ i = (gids B).length)) := by
    intro r hr
    rcases gids_newA h3 hg hr with h | h
    · obtain ⟨i, hk1, hk2⟩ := gws_get (E := E) (ad := ad) (I := I) (J := J) h
      have hl2 : i < (gws E ad I J B).length := (List.getElem?_eq_some_iff.mp hk2).1
      refine ⟨i, ?_, Or.inl ⟨i, rfl, hk1⟩⟩
      rw [List.getElem?_append_left hl2, hk2, gadA_n (gidsA_nm h h3 hB), genc_newA h h3 hB]
    · subst h
      refine ⟨(gids B).length, ?_, Or.inr ⟨rfl, rfl⟩⟩
      rw [List.getElem?_append_right (by omega), hl, Nat.sub_self, genc_arr ha]
      have e1 : gadA ad m q (k, m, 0) = q := if_pos ⟨hk3, rfl⟩
      have e2 : gnaI I k m k m 0 = fun _ => 0 := funext fun j => if_pos ⟨rfl, rfl⟩
      rw [e1]
      unfold garrE
      show some _ = some _
      rw [e2]
      rfl
  refine ⟨fun i z hz => ?_, ⟨fun i j x z hi hj hxz => ?_, fun i z hz => ?_⟩, fun r hr => (gadA_k hr).trans (hx r hr), fun a ha1 ha2 hB2 => ?_⟩
  · unfold gws at hz
    rw [List.getElem?_map] at hz
    cases hr : (gids (gUB B m))[i]? with
    | none => rw [hr] at hz; cases hz
    | some r =>
      rw [hr] at hz
      cases hz
      obtain ⟨k2, h1, -⟩ := key r (List.mem_of_getElem? hr)
      exact hP k2 _ h1
  · unfold gws at hi hj
    rw [List.getElem?_map] at hi hj
    cases hr : (gids (gUB B m))[i]? with
    | none => rw [hr] at hi; cases hi
    | some r =>
      cases hr2 : (gids (gUB B m))[j]? with
      | none => rw [hr2] at hj; cases hj
      | some r2 =>
        rw [hr] at hi
        rw [hr2] at hj
        cases hi
        cases hj
        obtain ⟨k1, a1, a2⟩ := key r (List.mem_of_getElem? hr)
        obtain ⟨k2, b1, b2⟩ := key r2 (List.mem_of_getElem? hr2)
        have e := hD.1 k1 k2 _ _ a1 b1 hxz
        have hrr : r = r2 := by
          rcases a2 with ⟨k0, rfl, a3⟩ | ⟨a3, a4⟩
          · rcases b2 with ⟨k0, rfl, b3⟩ | ⟨b3, b4⟩
            · subst e
              exact Option.some.inj (a3.symm.trans b3)
            · have := (List.getElem?_eq_some_iff.mp a3).1
              omega
          · rcases b2 with ⟨k0, rfl, b3⟩ | ⟨b3, b4⟩
            · have := (List.getElem?_eq_some_iff.mp b3).1
              omega
            · exact a3.trans b3.symm
        subst hrr
        obtain ⟨g1, e1⟩ := List.getElem?_eq_some_iff.mp hr
        obtain ⟨g2, e2⟩ := List.getElem?_eq_some_iff.mp hr2
        have hp := List.pairwise_iff_getElem.mp (gids_nodup (gUB B m))
        rcases Nat.lt_trichotomy i j with h | h | h
        · exact absurd (e1.trans e2.symm) (hp i j g1 g2 h)
        · exact h
        · exact absurd (e2.trans e1.symm) (hp j i g2 g1 h)
  · unfold gws at hz
    rw [List.getElem?_map] at hz
    cases hr : (gids (gUB B m))[i]? with
    | none => rw [hr] at hz; cases hz
    | some r =>
      rw [hr] at hz
      cases hz
      obtain ⟨k2, h1, -⟩ := key r (List.mem_of_getElem? hr)
      exact hD.2 k2 _ h1
  · rw [show gUB B m (a + 17) = B (a + 17) from if_neg (by omega)] at hB2
    rw [show gUB B m a = B a from if_neg (by omega)]
    exact hk a ha1 ha2 hB2
theorem gca_eq {E : gEn} {cA ca : ClassId} {ty : FieldType} {s : State} (hK : va_K (gD E) vwCl (gtys E ++ [(cA, ty)]) s) (i : Nat) (hi : (gtys E)[i]? = some (ca, ty)) (ht : (match ty with | .object _ => false | _ => true) = true) : cA = ca := by
  have h1 := (hK.2 7 (cA, ty) rfl).2
  have h2 := (hK.2 i (ca, ty) (by rw [List.getElem?_append_left (List.getElem?_eq_some_iff.mp hi).1]; exact hi)).2
  cases ty <;> first | exact Option.some.inj (h1.symm.trans h2) | cases ht
section GH
variable {E : gEn} {y pc : Nat} {ls : List (Nat × gV)} {r : List gV} {I : gI} {J : gJ} {B : gB} {c w : Nat} {Q : gQt} {X : gXt}
theorem gp_newarray {k m n : Nat} {x : Int32} (hd : decode (hb y) pc = .ok (.newarray .int, 2)) (ha : garr k = some (0, n, 0)) (hxn : x = Int32.ofNat n) (hn : n ≤ 1000) (h3 : 100 ≤ m) (hg : (k, m, 0) ∈ gall) (hB : B m = false) (hroom : c + 1 ≤ hmc y ∧ w + n ≤ hms y)
    (kk : gG E y (pc + 2) ls (.inr (k, m, 0) :: r) (gnaI I k m) J (gUB B m) (c + 1) (w + n) Q X) : gG E y pc ls (.inl (.int x) :: r) I J B c w Q X := by
  intro hc hw p e s mm args below meth cc ad0 Bs hC hT H locs LS ad hS
  obtain ⟨ux, ub, ur, uml, hown, hts, ulk, hE⟩ := id hC
  have hA : ∀ q : Nat, s.heap.size ≤ q → gA E q := fun q h => ⟨Nat.le_trans hE.2.2.2.2.2.2.2.2.2.2.2.2.2.2.2.2.2.1 h, fun h2 => absurd (hE.2.2.2.2.2.2.2.2.2.2.2.2.2.2.2.2.2.2 q h2) (by omega)⟩
  have hdr := gvs_d hS.vs
  have hnn : ¬ x < 0 ∧ x.toNatClampNeg = n := by
    subst hxn
    have e1 : (Int32.ofNat n).toInt = (n : Int) := Int32.toInt_ofNat_of_lt (by omega)
    refine ⟨?_, ?_⟩
    · rw [Int32.lt_iff_toInt_lt, e1]
      show ¬ (n : Int) < 0
      omega
    · show (Int32.ofNat n).toInt.toNat = n
      rw [e1]
      exact Int.toNat_natCast n
  refine va_newa (atype := .int) (ty := .int) (a0 := (n, .inl (fun _ => 0))) (N' := n) ux ub (hts _ gw_ari) rfl hE.1 hS.1.1 hS.1.2.1 hS.2.1 hA (fun _ => rfl) hnn.1 hnn.2 (by show n * 4 ≤ 536870912; omega) hroom.1 hroom.2 hd (fun q cA H1 hK2 hP hD hS1 => ?_)
  have hcA : cA = gca E 0 := gca_eq hK2 0 rfl rfl
  subst hcA
  have hR := gRep.newA hP hD hS.1.2.2.1 hS.1.2.2.2 ha h3 hg hB
  have hle : gLe B (gUB B m) := gLe_UB
  have hvl : ∀ r, gVl B r → gVl (gUB B m) r ∧ gadA ad m q r = ad r := by
    intro r hr
    rcases hr with rfl | hr | hr | hr
    · exact ⟨Or.inl rfl, gadA_k (by decide)⟩
    · exact ⟨Or.inr (Or.inl hr), gadA_k (by omega)⟩
    · exact ⟨Or.inr (Or.inr (Or.inl hr)), gadA_k (by omega)⟩
    · exact ⟨Or.inr (Or.inr (Or.inr (gids_le hle hr))), gadA_n (gidsA_nm hr h3 hB)⟩
  have hvv : ∀ v : gV, gVv B v → gVv (gUB B m) v ∧ gcv (gadA ad m q) v = gcv ad v := by
    intro v hv
    cases v with
    | inl z => exact ⟨trivial, rfl⟩
    | inr r => exact ⟨(hvl r hv).1, congrArg Value.ref (hvl r hv).2⟩
  have e1 : r.map (gcv ad) = r.map (gcv (gadA ad m q)) := List.map_congr_left fun v hv => ((hvv v (hdr v hv)).2).symm
  have e2 : ls.map (gcp ad) = ls.map (gcp (gadA ad m q)) := List.map_congr_left fun v hv => by
    unfold gcp
    rw [(hvv v.2 (hS.2.2.2.2.2.1 v hv)).2]
  have e3 : gadA ad m q (k, m, 0) = q := if_pos ⟨garr_k3 ha, rfl⟩
  have k2 := kk (by omega) (by omega) p e s mm args below meth cc ad0 Bs hC hT H1 locs LS (gadA ad m q) ⟨hR, hS1, by rw [← e2]; exact hS.2.2.1, fun r hr => ?_, fun n hn => hle n (hS.2.2.2.2.1 n hn), fun z hz => (hvv z.2 (hS.2.2.2.2.2.1 z hz)).1, fun v hv => ?_⟩
  · rw [List.map_cons] at k2
    rw [e1]
    rw [show gcv (gadA ad m q) (.inr (k, m, 0)) = .ref q from congrArg Value.ref e3] at k2
    exact k2
  · rw [(hvl r (gVl_le hS.2.2.2.2.1 hr)).2]
    exact hS.2.2.2.1 r hr
  · rcases List.mem_cons.mp hv with rfl | hv
    · exact Or.inr (Or.inr (Or.inr (gids_inA hg)))
    · exact (hvv v (hdr v hv)).1
end GH
end
section
/-! ===== every row of code does what gsem says (by wip/whole/p20.py) ===== -/
theorem gYc_t : ∀ t ∈ gYc, hht t = [] := by decide +kernel
theorem gYx_t : ∀ t ∈ gYx, hht t ≠ [] := by decide +kernel
theorem gx3_0 {a b c : Prop} : gx3 0 a b c = a := rfl
theorem gx3_1 {a b c : Prop} : gx3 1 a b c = b := rfl
theorem gx3_2 {a b c : Prop} : gx3 2 a b c = c := rfl
def gHcl : List (Nat × Nat) := [(145, 0), (147, 1), (149, 2)]
/-- the handlers of the small machine are those of the method's table -/
def gckH (y : Nat) (cd : List gE) (hs : gH) : Bool := match hs with
  | [] => (hht y).isEmpty
  | _ => Nat.beq (hcl y) 9 && (Nat.beq hs.length (hht y).length && ((hs.zip (hht y)).all (fun q => Nat.beq q.1.1 q.2.1 && (Nat.beq q.1.2.1 q.2.2.1 && (Nat.beq q.1.2.2.1 q.2.2.2.1 && gHcl.contains (q.2.2.2.2, q.1.2.2.2)))) && hs.all (fun z => match gto cd z.2.2.1 with
    | (_, _, .astore_n _, _) :: _ => true
    | (_, _, .astore _, _) :: _ => true
    | _ => false)))

section GZ
variable {E : gEn} {y : Nat} {cd : List gE} {hs : gH} {bo : Bool} {Q : gQt} {X : gXt} {rest : List gE} {go : List gE → gM} {ls : List (Nat × gV)} {st : List gV} {I : gI} {J : gJ} {B : gB} {c w : Nat} {pc len a b : Nat} {v : gV}
theorem gdec2 {ins : Instr} (hck : gck1 y (pc, len, ins, a, b, v) rest = true) : decode (hb y) pc = .ok (ins, len) := of_decide_eq_true (gband hck).1
theorem gG_in (h : c ≤ hmc y → w ≤ hms y → gG E y pc ls st I J B c w Q X) : gG E y pc ls st I J B c w Q X := fun hc hw => h hc hw hc hw
theorem gtgt_e {off : Int} (h : gtgt pc off a = true) : (pc : Int) + off = (a : Int) := of_decide_eq_true h
theorem ghok_of {own : String} : ∀ {hh : List (Nat × Nat × Nat × Nat)} {hs : gH}, own = RL → hs.length = hh.length → (∀ q ∈ hs.zip hh, (Nat.beq q.1.1 q.2.1 && (Nat.beq q.1.2.1 q.2.2.1 && (Nat.beq q.1.2.2.1 q.2.2.2.1 && gHcl.contains (q.2.2.2.2, q.1.2.2.2)))) = true) → gHok own hh hs
  | [], [], _, _, _ => trivial
  | [], _ :: _, _, h, _ => by cases h
  | _ :: _, [], _, h, _ => by cases h
  | (a, b, h, i) :: t, (a2, b2, h2, j) :: t2, ho, hl, hq => by
    have h0 := hq ((a2, b2, h2, j), (a, b, h, i)) (by simp)
    obtain ⟨e1, h0⟩ := gband h0
    obtain ⟨e2, h0⟩ := gband h0
    obtain ⟨e3, h0⟩ := gband h0
    refine ⟨⟨Nat.eq_of_beq_eq_true e1, Nat.eq_of_beq_eq_true e2, Nat.eq_of_beq_eq_true e3, ?_⟩, ghok_of ho (by simpa using hl) (fun q h => hq q (by simp only [List.zip_cons_cons, List.mem_cons]; exact Or.inr h))⟩
    have h1 : (i, j) ∈ gHcl := List.contains_iff_mem.mp h0
    subst ho
    simp only [gHcl, List.mem_cons, List.not_mem_nil, or_false, Prod.mk.injEq] at h1
    rcases h1 with ⟨rfl, rfl⟩ | ⟨rfl, rfl⟩ | ⟨rfl, rfl⟩
    · exact ⟨by decide, by decide, gCl_ok ("ToeplitzLabLaw", 145, "java/lang/IllegalStateException") (by decide +kernel)⟩
    · exact ⟨by decide, by decide, gCl_ok ("ToeplitzLabLaw", 147, "java/lang/IndexOutOfBoundsException") (by decide +kernel)⟩
    · exact ⟨by decide, by decide, gCl_ok ("ToeplitzLabLaw", 149, "java/lang/IllegalArgumentException") (by decide +kernel)⟩
theorem ghf_mem {k h : Nat} : ∀ {hs : gH}, ghf hs pc k = some h → ∃ z ∈ hs, z.2.2.1 = h
  | [], e => by cases e
  | (a, b, h2, j) :: r, e => by
    unfold ghf at e
    split at e
    · cases e
      exact ⟨_, List.mem_cons_self, rfl⟩
    · obtain ⟨z, hz, h3⟩ := ghf_mem e
      exact ⟨z, List.mem_cons_of_mem _ hz, h3⟩
/-- what a handler leads to -/
theorem gh_go {k h : Nat} (hgo : gGo E y cd Q X go) (hcd : gckL y cd = true) (hcl2 : (hy y).cls = gcls (hcl y)) (hne : hs ≠ []) (hH : gckH y cd hs = true) (hk : k < 3) (hf : ghf hs pc k = some h) (h0 : ghg cd h (fun r ls2 => go r ls2 [] I J B c w) ls) : gGx E y pc ls k I J B c w Q X := by
  have hH2 : (Nat.beq (hcl y) 9 && (Nat.beq hs.length (hht y).length && ((hs.zip (hht y)).all (fun q => Nat.beq q.1.1 q.2.1 && (Nat.beq q.1.2.1 q.2.2.1 && (Nat.beq q.1.2.2.1 q.2.2.2.1 && gHcl.contains (q.2.2.2.2, q.1.2.2.2)))) && hs.all (fun z => match gto cd z.2.2.1 with
    | (_, _, .astore_n _, _) :: _ => true
    | (_, _, .astore _, _) :: _ => true
    | _ => false)))) = true := by
    unfold gckH at hH
    split at hH
    · exact absurd rfl hne
    · exact hH
  obtain ⟨c1, hH2⟩ := gband hH2
  obtain ⟨c2, hH2⟩ := gband hH2
  obtain ⟨c3, c4⟩ := gband hH2
  have hok : gHok (hy y).cls (hht y) hs := ghok_of (by rw [hcl2, Nat.eq_of_beq_eq_true c1]; rfl) (Nat.eq_of_beq_eq_true c2) (List.all_eq_true.mp c3)
  obtain ⟨z, hz, hzh⟩ := ghf_mem hf
  have c5 := List.all_eq_true.mp c4 z hz
  rw [hzh] at c5
  unfold ghg at h0
  obtain ⟨pre, hpre⟩ := gto_s (cd := cd) (t := h)
  cases hg : gto cd h with
  | nil => rw [hg] at c5; cases c5
  | cons e r =>
    rw [hg] at c5 h0 hpre
    have ht := gto_h hg
    have hck : gck1 y e r = true := gckL_at (by rw [hpre] at hcd; exact hcd)
    obtain ⟨pc2, len2, ins2, a2, b2, v2⟩ := e
    have hpc : pc2 = h := ht
    subst hpc
    have hst : (∃ j : Fin 4, ins2 = .astore_n j ∧ (j : Nat) = a2 ∧ len2 = 1 ∧ a2 < hml y) ∨ (ins2 = .astore a2 ∧ len2 = 2 ∧ a2 < hml y) := by
      split at c5
      · rename_i heq
        cases heq
        obtain ⟨d1, d2⟩ := gband (gband hck).2
        obtain ⟨d2, d3⟩ := gband d2
        obtain ⟨d3, d4⟩ := gband d3
        exact Or.inl ⟨_, rfl, Nat.eq_of_beq_eq_true d3, Nat.eq_of_beq_eq_true d2, Nat.le_of_ble_eq_true d4⟩
      · rename_i heq
        cases heq
        obtain ⟨d1, d2⟩ := gband (gband hck).2
        obtain ⟨d2, d3⟩ := gband d2
        obtain ⟨d3, d4⟩ := gband d3
        have e4 := Nat.eq_of_beq_eq_true d3
        subst e4
        exact Or.inr ⟨rfl, Nat.eq_of_beq_eq_true d2, Nat.le_of_ble_eq_true d4⟩
      · cases c5
    have hd2 : decode (hb y) pc2 = .ok (ins2, len2) := gdec2 hck
    have hG : gG E y (pc2 + len2) (ls.filter (fun q => !(q.1 == a2) && !(q.1 + 1 == a2 && gcat q.2 == 2))) [] I J B c w Q X := hgo.nx ⟨pre, hpre⟩ hck h0
    clear h0 hck
    rcases hst with ⟨j, e1, e2, e3, e4⟩ | ⟨e1, e2, e3⟩
    · exact gx_catch (h := pc2) (a := a2) (e0 := len2) (ins := ins2) hok hk hf hd2 (Or.inl ⟨j, e1, e2, e3⟩) e4 hG
    · exact gx_catch (h := pc2) (a := a2) (e0 := len2) (ins := ins2) hok hk hf hd2 (Or.inr ⟨e1, e2⟩) e3 hG
theorem gh_no {k : Nat} (hcl2 : (hy y).cls = gcls (hcl y)) (hne : hs ≠ []) (hH : gckH y cd hs = true) (hk : k < 3) (hf : ghf hs pc k = none) (h0 : X k I J B) : gGx E y pc ls k I J B c w Q X := by
  have hH2 : (Nat.beq (hcl y) 9 && (Nat.beq hs.length (hht y).length && ((hs.zip (hht y)).all (fun q => Nat.beq q.1.1 q.2.1 && (Nat.beq q.1.2.1 q.2.2.1 && (Nat.beq q.1.2.2.1 q.2.2.2.1 && gHcl.contains (q.2.2.2.2, q.1.2.2.2)))) && hs.all (fun z => match gto cd z.2.2.1 with
    | (_, _, .astore_n _, _) :: _ => true
    | (_, _, .astore _, _) :: _ => true
    | _ => false)))) = true := by
    unfold gckH at hH
    split at hH
    · exact absurd rfl hne
    · exact hH
  obtain ⟨c1, hH2⟩ := gband hH2
  obtain ⟨c2, hH2⟩ := gband hH2
  obtain ⟨c3, c4⟩ := gband hH2
  have hok : gHok (hy y).cls (hht y) hs := ghok_of (by rw [hcl2, Nat.eq_of_beq_eq_true c1]; rfl) (Nat.eq_of_beq_eq_true c2) (List.all_eq_true.mp c3)
  exact gx_pass hok hk hf h0

theorem gs_iadd  (hgo : gGo E y cd Q X go) (hsuf : ∃ pre, cd = pre ++ (pc, len, .iadd, a, b, v) :: rest) (hck : gck1 y (pc, len, .iadd, a, b, v) rest = true) (h : gsem (gC E) cd hs (hmc y) (hms y) (gL E) (gXs E) bo Q X (pc, len, .iadd, a, b, v) rest go ls st I J B c w)  : gG E y pc ls st I J B c w Q X := by
  replace h := gpi_e h; obtain ⟨z, r, rfl, h⟩ := h
  replace h := gpi_e h; obtain ⟨x, r, rfl, h⟩ := h
  have hl : len = 1 := Nat.eq_of_beq_eq_true (gband (gband hck).2).2
  subst hl
  exact gp_iadd (gdec2 hck) (hgo.nx hsuf hck h)
theorem gs_isub  (hgo : gGo E y cd Q X go) (hsuf : ∃ pre, cd = pre ++ (pc, len, .isub, a, b, v) :: rest) (hck : gck1 y (pc, len, .isub, a, b, v) rest = true) (h : gsem (gC E) cd hs (hmc y) (hms y) (gL E) (gXs E) bo Q X (pc, len, .isub, a, b, v) rest go ls st I J B c w)  : gG E y pc ls st I J B c w Q X := by
  replace h := gpi_e h; obtain ⟨z, r, rfl, h⟩ := h
  replace h := gpi_e h; obtain ⟨x, r, rfl, h⟩ := h
  have hl : len = 1 := Nat.eq_of_beq_eq_true (gband (gband hck).2).2
  subst hl
  exact gp_isub (gdec2 hck) (hgo.nx hsuf hck h)
theorem gs_imul  (hgo : gGo E y cd Q X go) (hsuf : ∃ pre, cd = pre ++ (pc, len, .imul, a, b, v) :: rest) (hck : gck1 y (pc, len, .imul, a, b, v) rest = true) (h : gsem (gC E) cd hs (hmc y) (hms y) (gL E) (gXs E) bo Q X (pc, len, .imul, a, b, v) rest go ls st I J B c w)  : gG E y pc ls st I J B c w Q X := by
  replace h := gpi_e h; obtain ⟨z, r, rfl, h⟩ := h
  replace h := gpi_e h; obtain ⟨x, r, rfl, h⟩ := h
  have hl : len = 1 := Nat.eq_of_beq_eq_true (gband (gband hck).2).2
  subst hl
  exact gp_imul (gdec2 hck) (hgo.nx hsuf hck h)
theorem gs_iand  (hgo : gGo E y cd Q X go) (hsuf : ∃ pre, cd = pre ++ (pc, len, .iand, a, b, v) :: rest) (hck : gck1 y (pc, len, .iand, a, b, v) rest = true) (h : gsem (gC E) cd hs (hmc y) (hms y) (gL E) (gXs E) bo Q X (pc, len, .iand, a, b, v) rest go ls st I J B c w)  : gG E y pc ls st I J B c w Q X := by
  replace h := gpi_e h; obtain ⟨z, r, rfl, h⟩ := h
  replace h := gpi_e h; obtain ⟨x, r, rfl, h⟩ := h
  have hl : len = 1 := Nat.eq_of_beq_eq_true (gband (gband hck).2).2
  subst hl
  exact gp_iand (gdec2 hck) (hgo.nx hsuf hck h)
theorem gs_ior  (hgo : gGo E y cd Q X go) (hsuf : ∃ pre, cd = pre ++ (pc, len, .ior, a, b, v) :: rest) (hck : gck1 y (pc, len, .ior, a, b, v) rest = true) (h : gsem (gC E) cd hs (hmc y) (hms y) (gL E) (gXs E) bo Q X (pc, len, .ior, a, b, v) rest go ls st I J B c w)  : gG E y pc ls st I J B c w Q X := by
  replace h := gpi_e h; obtain ⟨z, r, rfl, h⟩ := h
  replace h := gpi_e h; obtain ⟨x, r, rfl, h⟩ := h
  have hl : len = 1 := Nat.eq_of_beq_eq_true (gband (gband hck).2).2
  subst hl
  exact gp_ior (gdec2 hck) (hgo.nx hsuf hck h)
theorem gs_ixor  (hgo : gGo E y cd Q X go) (hsuf : ∃ pre, cd = pre ++ (pc, len, .ixor, a, b, v) :: rest) (hck : gck1 y (pc, len, .ixor, a, b, v) rest = true) (h : gsem (gC E) cd hs (hmc y) (hms y) (gL E) (gXs E) bo Q X (pc, len, .ixor, a, b, v) rest go ls st I J B c w)  : gG E y pc ls st I J B c w Q X := by
  replace h := gpi_e h; obtain ⟨z, r, rfl, h⟩ := h
  replace h := gpi_e h; obtain ⟨x, r, rfl, h⟩ := h
  have hl : len = 1 := Nat.eq_of_beq_eq_true (gband (gband hck).2).2
  subst hl
  exact gp_ixor (gdec2 hck) (hgo.nx hsuf hck h)
theorem gs_ishl  (hgo : gGo E y cd Q X go) (hsuf : ∃ pre, cd = pre ++ (pc, len, .ishl, a, b, v) :: rest) (hck : gck1 y (pc, len, .ishl, a, b, v) rest = true) (h : gsem (gC E) cd hs (hmc y) (hms y) (gL E) (gXs E) bo Q X (pc, len, .ishl, a, b, v) rest go ls st I J B c w)  : gG E y pc ls st I J B c w Q X := by
  replace h := gpi_e h; obtain ⟨z, r, rfl, h⟩ := h
  replace h := gpi_e h; obtain ⟨x, r, rfl, h⟩ := h
  have hl : len = 1 := Nat.eq_of_beq_eq_true (gband (gband hck).2).2
  subst hl
  exact gp_ishl (gdec2 hck) (hgo.nx hsuf hck h)
theorem gs_ishr  (hgo : gGo E y cd Q X go) (hsuf : ∃ pre, cd = pre ++ (pc, len, .ishr, a, b, v) :: rest) (hck : gck1 y (pc, len, .ishr, a, b, v) rest = true) (h : gsem (gC E) cd hs (hmc y) (hms y) (gL E) (gXs E) bo Q X (pc, len, .ishr, a, b, v) rest go ls st I J B c w)  : gG E y pc ls st I J B c w Q X := by
  replace h := gpi_e h; obtain ⟨z, r, rfl, h⟩ := h
  replace h := gpi_e h; obtain ⟨x, r, rfl, h⟩ := h
  have hl : len = 1 := Nat.eq_of_beq_eq_true (gband (gband hck).2).2
  subst hl
  exact gp_ishr (gdec2 hck) (hgo.nx hsuf hck h)
theorem gs_iushr  (hgo : gGo E y cd Q X go) (hsuf : ∃ pre, cd = pre ++ (pc, len, .iushr, a, b, v) :: rest) (hck : gck1 y (pc, len, .iushr, a, b, v) rest = true) (h : gsem (gC E) cd hs (hmc y) (hms y) (gL E) (gXs E) bo Q X (pc, len, .iushr, a, b, v) rest go ls st I J B c w)  : gG E y pc ls st I J B c w Q X := by
  replace h := gpi_e h; obtain ⟨z, r, rfl, h⟩ := h
  replace h := gpi_e h; obtain ⟨x, r, rfl, h⟩ := h
  have hl : len = 1 := Nat.eq_of_beq_eq_true (gband (gband hck).2).2
  subst hl
  exact gp_iushr (gdec2 hck) (hgo.nx hsuf hck h)
theorem gs_idiv  (hgo : gGo E y cd Q X go) (hsuf : ∃ pre, cd = pre ++ (pc, len, .idiv, a, b, v) :: rest) (hck : gck1 y (pc, len, .idiv, a, b, v) rest = true) (h : gsem (gC E) cd hs (hmc y) (hms y) (gL E) (gXs E) bo Q X (pc, len, .idiv, a, b, v) rest go ls st I J B c w)  : gG E y pc ls st I J B c w Q X := by
  replace h := gpi_e h; obtain ⟨z, r, rfl, h⟩ := h
  replace h := gpi_e h; obtain ⟨x, r, rfl, h⟩ := h
  have hl : len = 1 := Nat.eq_of_beq_eq_true (gband (gband hck).2).2
  subst hl
  exact gp_idiv (gdec2 hck) h.1 (hgo.nx hsuf hck h.2)
theorem gs_irem  (hgo : gGo E y cd Q X go) (hsuf : ∃ pre, cd = pre ++ (pc, len, .irem, a, b, v) :: rest) (hck : gck1 y (pc, len, .irem, a, b, v) rest = true) (h : gsem (gC E) cd hs (hmc y) (hms y) (gL E) (gXs E) bo Q X (pc, len, .irem, a, b, v) rest go ls st I J B c w)  : gG E y pc ls st I J B c w Q X := by
  replace h := gpi_e h; obtain ⟨z, r, rfl, h⟩ := h
  replace h := gpi_e h; obtain ⟨x, r, rfl, h⟩ := h
  have hl : len = 1 := Nat.eq_of_beq_eq_true (gband (gband hck).2).2
  subst hl
  exact gp_irem (gdec2 hck) h.1 (hgo.nx hsuf hck h.2)
theorem gs_ladd  (hgo : gGo E y cd Q X go) (hsuf : ∃ pre, cd = pre ++ (pc, len, .ladd, a, b, v) :: rest) (hck : gck1 y (pc, len, .ladd, a, b, v) rest = true) (h : gsem (gC E) cd hs (hmc y) (hms y) (gL E) (gXs E) bo Q X (pc, len, .ladd, a, b, v) rest go ls st I J B c w)  : gG E y pc ls st I J B c w Q X := by
  replace h := gpl_e h; obtain ⟨z, r, rfl, h⟩ := h
  replace h := gpl_e h; obtain ⟨x, r, rfl, h⟩ := h
  have hl : len = 1 := Nat.eq_of_beq_eq_true (gband (gband hck).2).2
  subst hl
  exact gp_ladd (gdec2 hck) (hgo.nx hsuf hck h)
theorem gs_lsub  (hgo : gGo E y cd Q X go) (hsuf : ∃ pre, cd = pre ++ (pc, len, .lsub, a, b, v) :: rest) (hck : gck1 y (pc, len, .lsub, a, b, v) rest = true) (h : gsem (gC E) cd hs (hmc y) (hms y) (gL E) (gXs E) bo Q X (pc, len, .lsub, a, b, v) rest go ls st I J B c w)  : gG E y pc ls st I J B c w Q X := by
  replace h := gpl_e h; obtain ⟨z, r, rfl, h⟩ := h
  replace h := gpl_e h; obtain ⟨x, r, rfl, h⟩ := h
  have hl : len = 1 := Nat.eq_of_beq_eq_true (gband (gband hck).2).2
  subst hl
  exact gp_lsub (gdec2 hck) (hgo.nx hsuf hck h)
theorem gs_lmul  (hgo : gGo E y cd Q X go) (hsuf : ∃ pre, cd = pre ++ (pc, len, .lmul, a, b, v) :: rest) (hck : gck1 y (pc, len, .lmul, a, b, v) rest = true) (h : gsem (gC E) cd hs (hmc y) (hms y) (gL E) (gXs E) bo Q X (pc, len, .lmul, a, b, v) rest go ls st I J B c w)  : gG E y pc ls st I J B c w Q X := by
  replace h := gpl_e h; obtain ⟨z, r, rfl, h⟩ := h
  replace h := gpl_e h; obtain ⟨x, r, rfl, h⟩ := h
  have hl : len = 1 := Nat.eq_of_beq_eq_true (gband (gband hck).2).2
  subst hl
  exact gp_lmul (gdec2 hck) (hgo.nx hsuf hck h)
theorem gs_lcmp  (hgo : gGo E y cd Q X go) (hsuf : ∃ pre, cd = pre ++ (pc, len, .lcmp, a, b, v) :: rest) (hck : gck1 y (pc, len, .lcmp, a, b, v) rest = true) (h : gsem (gC E) cd hs (hmc y) (hms y) (gL E) (gXs E) bo Q X (pc, len, .lcmp, a, b, v) rest go ls st I J B c w)  : gG E y pc ls st I J B c w Q X := by
  replace h := gpl_e h; obtain ⟨z, r, rfl, h⟩ := h
  replace h := gpl_e h; obtain ⟨x, r, rfl, h⟩ := h
  have hl : len = 1 := Nat.eq_of_beq_eq_true (gband (gband hck).2).2
  subst hl
  exact gp_lcmp (gdec2 hck) (hgo.nx hsuf hck h)
theorem gs_ldiv  (hgo : gGo E y cd Q X go) (hsuf : ∃ pre, cd = pre ++ (pc, len, .ldiv, a, b, v) :: rest) (hck : gck1 y (pc, len, .ldiv, a, b, v) rest = true) (h : gsem (gC E) cd hs (hmc y) (hms y) (gL E) (gXs E) bo Q X (pc, len, .ldiv, a, b, v) rest go ls st I J B c w)  : gG E y pc ls st I J B c w Q X := by
  replace h := gpl_e h; obtain ⟨z, r, rfl, h⟩ := h
  replace h := gpl_e h; obtain ⟨x, r, rfl, h⟩ := h
  have hl : len = 1 := Nat.eq_of_beq_eq_true (gband (gband hck).2).2
  subst hl
  exact gp_ldiv (gdec2 hck) h.1 (hgo.nx hsuf hck h.2)
theorem gs_lrem  (hgo : gGo E y cd Q X go) (hsuf : ∃ pre, cd = pre ++ (pc, len, .lrem, a, b, v) :: rest) (hck : gck1 y (pc, len, .lrem, a, b, v) rest = true) (h : gsem (gC E) cd hs (hmc y) (hms y) (gL E) (gXs E) bo Q X (pc, len, .lrem, a, b, v) rest go ls st I J B c w)  : gG E y pc ls st I J B c w Q X := by
  replace h := gpl_e h; obtain ⟨z, r, rfl, h⟩ := h
  replace h := gpl_e h; obtain ⟨x, r, rfl, h⟩ := h
  have hl : len = 1 := Nat.eq_of_beq_eq_true (gband (gband hck).2).2
  subst hl
  exact gp_lrem (gdec2 hck) h.1 (hgo.nx hsuf hck h.2)
theorem gs_ineg  (hgo : gGo E y cd Q X go) (hsuf : ∃ pre, cd = pre ++ (pc, len, .ineg, a, b, v) :: rest) (hck : gck1 y (pc, len, .ineg, a, b, v) rest = true) (h : gsem (gC E) cd hs (hmc y) (hms y) (gL E) (gXs E) bo Q X (pc, len, .ineg, a, b, v) rest go ls st I J B c w)  : gG E y pc ls st I J B c w Q X := by
  replace h := gpi_e h; obtain ⟨x, r, rfl, h⟩ := h
  have hl : len = 1 := Nat.eq_of_beq_eq_true (gband (gband hck).2).2
  subst hl
  exact gp_ineg (gdec2 hck) (hgo.nx hsuf hck h)
theorem gs_lneg  (hgo : gGo E y cd Q X go) (hsuf : ∃ pre, cd = pre ++ (pc, len, .lneg, a, b, v) :: rest) (hck : gck1 y (pc, len, .lneg, a, b, v) rest = true) (h : gsem (gC E) cd hs (hmc y) (hms y) (gL E) (gXs E) bo Q X (pc, len, .lneg, a, b, v) rest go ls st I J B c w)  : gG E y pc ls st I J B c w Q X := by
  replace h := gpl_e h; obtain ⟨x, r, rfl, h⟩ := h
  have hl : len = 1 := Nat.eq_of_beq_eq_true (gband (gband hck).2).2
  subst hl
  exact gp_lneg (gdec2 hck) (hgo.nx hsuf hck h)
theorem gs_i2l  (hgo : gGo E y cd Q X go) (hsuf : ∃ pre, cd = pre ++ (pc, len, .i2l, a, b, v) :: rest) (hck : gck1 y (pc, len, .i2l, a, b, v) rest = true) (h : gsem (gC E) cd hs (hmc y) (hms y) (gL E) (gXs E) bo Q X (pc, len, .i2l, a, b, v) rest go ls st I J B c w)  : gG E y pc ls st I J B c w Q X := by
  replace h := gpi_e h; obtain ⟨x, r, rfl, h⟩ := h
  have hl : len = 1 := Nat.eq_of_beq_eq_true (gband (gband hck).2).2
  subst hl
  exact gp_i2l (gdec2 hck) (hgo.nx hsuf hck h)
theorem gs_l2i  (hgo : gGo E y cd Q X go) (hsuf : ∃ pre, cd = pre ++ (pc, len, .l2i, a, b, v) :: rest) (hck : gck1 y (pc, len, .l2i, a, b, v) rest = true) (h : gsem (gC E) cd hs (hmc y) (hms y) (gL E) (gXs E) bo Q X (pc, len, .l2i, a, b, v) rest go ls st I J B c w)  : gG E y pc ls st I J B c w Q X := by
  replace h := gpl_e h; obtain ⟨x, r, rfl, h⟩ := h
  have hl : len = 1 := Nat.eq_of_beq_eq_true (gband (gband hck).2).2
  subst hl
  exact gp_l2i (gdec2 hck) (hgo.nx hsuf hck h)
theorem gs_i2b  (hgo : gGo E y cd Q X go) (hsuf : ∃ pre, cd = pre ++ (pc, len, .i2b, a, b, v) :: rest) (hck : gck1 y (pc, len, .i2b, a, b, v) rest = true) (h : gsem (gC E) cd hs (hmc y) (hms y) (gL E) (gXs E) bo Q X (pc, len, .i2b, a, b, v) rest go ls st I J B c w)  : gG E y pc ls st I J B c w Q X := by
  replace h := gpi_e h; obtain ⟨x, r, rfl, h⟩ := h
  have hl : len = 1 := Nat.eq_of_beq_eq_true (gband (gband hck).2).2
  subst hl
  exact gp_i2b (gdec2 hck) (hgo.nx hsuf hck h)
theorem gs_l2d  (hgo : gGo E y cd Q X go) (hsuf : ∃ pre, cd = pre ++ (pc, len, .l2d, a, b, v) :: rest) (hck : gck1 y (pc, len, .l2d, a, b, v) rest = true) (h : gsem (gC E) cd hs (hmc y) (hms y) (gL E) (gXs E) bo Q X (pc, len, .l2d, a, b, v) rest go ls st I J B c w)  : gG E y pc ls st I J B c w Q X := by
  replace h := gpl_e h; obtain ⟨x, r, rfl, h⟩ := h
  have hl : len = 1 := Nat.eq_of_beq_eq_true (gband (gband hck).2).2
  subst hl
  exact gp_l2d (gdec2 hck) (hgo.nx hsuf hck h)
theorem gs_ddiv  (hgo : gGo E y cd Q X go) (hsuf : ∃ pre, cd = pre ++ (pc, len, .ddiv, a, b, v) :: rest) (hck : gck1 y (pc, len, .ddiv, a, b, v) rest = true) (h : gsem (gC E) cd hs (hmc y) (hms y) (gL E) (gXs E) bo Q X (pc, len, .ddiv, a, b, v) rest go ls st I J B c w)  : gG E y pc ls st I J B c w Q X := by
  replace h := gpd_e h; obtain ⟨z, r, rfl, h⟩ := h
  replace h := gpd_e h; obtain ⟨x, r, rfl, h⟩ := h
  have hl : len = 1 := Nat.eq_of_beq_eq_true (gband (gband hck).2).2
  subst hl
  exact gp_ddiv (gdec2 hck) h.1 (hgo.nx hsuf hck h.2)
theorem gs_dcmp {o : CmpOp} (hgo : gGo E y cd Q X go) (hsuf : ∃ pre, cd = pre ++ (pc, len, .dcmp o, a, b, v) :: rest) (hck : gck1 y (pc, len, .dcmp o, a, b, v) rest = true) (h : gsem (gC E) cd hs (hmc y) (hms y) (gL E) (gXs E) bo Q X (pc, len, .dcmp o, a, b, v) rest go ls st I J B c w)  : gG E y pc ls st I J B c w Q X := by
  replace h := gpd_e h; obtain ⟨z, r, rfl, h⟩ := h
  replace h := gpd_e h; obtain ⟨x, r, rfl, h⟩ := h
  have hl : len = 1 := Nat.eq_of_beq_eq_true (gband (gband hck).2).2
  subst hl
  exact gp_dcmp (gdec2 hck) (hgo.nx hsuf hck h)
theorem gs_iconst {n : Int} (hgo : gGo E y cd Q X go) (hsuf : ∃ pre, cd = pre ++ (pc, len, .iconst n, a, b, v) :: rest) (hck : gck1 y (pc, len, .iconst n, a, b, v) rest = true) (h : gsem (gC E) cd hs (hmc y) (hms y) (gL E) (gXs E) bo Q X (pc, len, .iconst n, a, b, v) rest go ls st I J B c w)  : gG E y pc ls st I J B c w Q X := by
  replace h := gvi_e h; obtain ⟨x, rfl, h⟩ := h
  obtain ⟨hl, h2⟩ := gband (gband (gband hck).2).2
  have hl := Nat.eq_of_beq_eq_true hl
  subst hl
  exact gp_iconst (gdec2 hck) (of_decide_eq_true (gvI_e h2 rfl)) (hgo.nx hsuf hck h)
theorem gs_bipush {n : Int} (hgo : gGo E y cd Q X go) (hsuf : ∃ pre, cd = pre ++ (pc, len, .bipush n, a, b, v) :: rest) (hck : gck1 y (pc, len, .bipush n, a, b, v) rest = true) (h : gsem (gC E) cd hs (hmc y) (hms y) (gL E) (gXs E) bo Q X (pc, len, .bipush n, a, b, v) rest go ls st I J B c w)  : gG E y pc ls st I J B c w Q X := by
  replace h := gvi_e h; obtain ⟨x, rfl, h⟩ := h
  obtain ⟨hl, h2⟩ := gband (gband (gband hck).2).2
  have hl := Nat.eq_of_beq_eq_true hl
  subst hl
  exact gp_bipush (gdec2 hck) (of_decide_eq_true (gvI_e h2 rfl)) (hgo.nx hsuf hck h)
theorem gs_sipush {n : Int} (hgo : gGo E y cd Q X go) (hsuf : ∃ pre, cd = pre ++ (pc, len, .sipush n, a, b, v) :: rest) (hck : gck1 y (pc, len, .sipush n, a, b, v) rest = true) (h : gsem (gC E) cd hs (hmc y) (hms y) (gL E) (gXs E) bo Q X (pc, len, .sipush n, a, b, v) rest go ls st I J B c w)  : gG E y pc ls st I J B c w Q X := by
  replace h := gvi_e h; obtain ⟨x, rfl, h⟩ := h
  obtain ⟨hl, h2⟩ := gband (gband (gband hck).2).2
  have hl := Nat.eq_of_beq_eq_true hl
  subst hl
  exact gp_sipush (gdec2 hck) (of_decide_eq_true (gvI_e h2 rfl)) (hgo.nx hsuf hck h)
theorem gs_lconst {n : Fin 2} (hgo : gGo E y cd Q X go) (hsuf : ∃ pre, cd = pre ++ (pc, len, .lconst n, a, b, v) :: rest) (hck : gck1 y (pc, len, .lconst n, a, b, v) rest = true) (h : gsem (gC E) cd hs (hmc y) (hms y) (gL E) (gXs E) bo Q X (pc, len, .lconst n, a, b, v) rest go ls st I J B c w)  : gG E y pc ls st I J B c w Q X := by
  replace h := gvl_e h; obtain ⟨x, rfl, h⟩ := h
  obtain ⟨hl, h2⟩ := gband (gband (gband hck).2).2
  have hl := Nat.eq_of_beq_eq_true hl
  subst hl
  exact gp_lconst (gdec2 hck) (of_decide_eq_true (gvL_e h2 rfl)) (hgo.nx hsuf hck h)
theorem gs_dconst {n : Fin 2} (hgo : gGo E y cd Q X go) (hsuf : ∃ pre, cd = pre ++ (pc, len, .dconst n, a, b, v) :: rest) (hck : gck1 y (pc, len, .dconst n, a, b, v) rest = true) (h : gsem (gC E) cd hs (hmc y) (hms y) (gL E) (gXs E) bo Q X (pc, len, .dconst n, a, b, v) rest go ls st I J B c w)  : gG E y pc ls st I J B c w Q X := by
  obtain ⟨hl, h2⟩ := gband (gband (gband hck).2).2
  have hl := Nat.eq_of_beq_eq_true hl
  subst hl
  have hn : n = 0 := Fin.ext (Nat.eq_of_beq_eq_true h2)
  subst hn
  exact gp_dconst (gdec2 hck) (hgo.nx hsuf hck h)
theorem gs_ldc {n : Nat} (hgo : gGo E y cd Q X go) (hsuf : ∃ pre, cd = pre ++ (pc, len, .ldc n, a, b, v) :: rest) (hck : gck1 y (pc, len, .ldc n, a, b, v) rest = true) (h : gsem (gC E) cd hs (hmc y) (hms y) (gL E) (gXs E) bo Q X (pc, len, .ldc n, a, b, v) rest go ls st I J B c w)  : gG E y pc ls st I J B c w Q X := by
  unfold gsem at h
  simp only at h
  obtain ⟨hl, h2⟩ := gband (gband (gband hck).2).2
  have hl := Nat.eq_of_beq_eq_true hl
  subst hl
  split at h
  · rename_i x
    obtain ⟨z, hz, h3⟩ := List.any_eq_true.mp h2
    obtain ⟨e1, h3⟩ := gband h3
    obtain ⟨e2, e3⟩ := gband h3
    have e1 := of_decide_eq_true e1
    have e2 := Nat.eq_of_beq_eq_true e2
    have e3 := of_decide_eq_true e3
    have h4 := gKi_ok z hz
    simp only at h4
    rw [e1, e2, e3] at h4
    exact gp_ldcI (gdec2 hck) h4 (hgo.nx hsuf hck h)
  rename_i hnoi
  have h := gvr_e h
  obtain ⟨q, rfl, h⟩ := h
  obtain ⟨q1, q2, q3⟩ := q
  simp only at h2
  split at h2
  · rename_i k heq
    cases heq
    obtain ⟨z, hz, h3⟩ := List.any_eq_true.mp h2
    obtain ⟨e1, h3⟩ := gband h3
    obtain ⟨e2, e3⟩ := gband h3
    obtain ⟨z1, z2, z3, z4⟩ := z
    have f1 : z1 = (hy y).cls := of_decide_eq_true e1
    have f2 : z2 = n := Nat.eq_of_beq_eq_true e2
    have f3 : z4 = q2 := Nat.eq_of_beq_eq_true e3
    clear e1 e2 e3 h3
    subst f1
    subst f2
    subst f3
    exact gp_ldcS (gdec2 hck) hz (hgo.nx hsuf hck h)
  · cases h2
  · rename_i heq
    cases heq
  · rename_i hno hno2 hno3
    exact absurd rfl (hno2 _)
theorem gs_ldcw {n : Nat} (hgo : gGo E y cd Q X go) (hsuf : ∃ pre, cd = pre ++ (pc, len, .ldc_w n, a, b, v) :: rest) (hck : gck1 y (pc, len, .ldc_w n, a, b, v) rest = true) (h : gsem (gC E) cd hs (hmc y) (hms y) (gL E) (gXs E) bo Q X (pc, len, .ldc_w n, a, b, v) rest go ls st I J B c w)  : gG E y pc ls st I J B c w Q X := by
  unfold gsem at h
  simp only at h
  split at h
  · rename_i x
    obtain ⟨hl, h2⟩ := gband (gband (gband hck).2).2
    have hl := Nat.eq_of_beq_eq_true hl
    subst hl
    obtain ⟨z, hz, h3⟩ := List.any_eq_true.mp h2
    obtain ⟨e1, h3⟩ := gband h3
    obtain ⟨e2, e3⟩ := gband h3
    have e1 := of_decide_eq_true e1
    have e2 := Nat.eq_of_beq_eq_true e2
    have e3 := of_decide_eq_true e3
    have h4 := gKi_ok z hz
    simp only at h4
    rw [e1, e2, e3] at h4
    exact gp_ldcw (gdec2 hck) h4 (hgo.nx hsuf hck h)
  · exact absurd h id
theorem gs_ldc2 {n : Nat} (hgo : gGo E y cd Q X go) (hsuf : ∃ pre, cd = pre ++ (pc, len, .ldc2_w n, a, b, v) :: rest) (hck : gck1 y (pc, len, .ldc2_w n, a, b, v) rest = true) (h : gsem (gC E) cd hs (hmc y) (hms y) (gL E) (gXs E) bo Q X (pc, len, .ldc2_w n, a, b, v) rest go ls st I J B c w)  : gG E y pc ls st I J B c w Q X := by
  replace h := gvl_e h; obtain ⟨x, rfl, h⟩ := h
  obtain ⟨hl, h2⟩ := gband (gband (gband hck).2).2
  have hl := Nat.eq_of_beq_eq_true hl
  subst hl
  have h2 := gvL_e h2 rfl
  obtain ⟨z, hz, h3⟩ := List.any_eq_true.mp h2
  obtain ⟨e1, h3⟩ := gband h3
  obtain ⟨e2, e3⟩ := gband h3
  have e1 := of_decide_eq_true e1
  have e2 := Nat.eq_of_beq_eq_true e2
  have e3 := of_decide_eq_true e3
  have h4 := gKl_ok z hz
  simp only at h4
  rw [e1, e2, e3] at h4
  exact gp_ldc2 (gdec2 hck) h4 (hgo.nx hsuf hck h)
theorem gs_null  (hgo : gGo E y cd Q X go) (hsuf : ∃ pre, cd = pre ++ (pc, len, .aconst_null, a, b, v) :: rest) (hck : gck1 y (pc, len, .aconst_null, a, b, v) rest = true) (h : gsem (gC E) cd hs (hmc y) (hms y) (gL E) (gXs E) bo Q X (pc, len, .aconst_null, a, b, v) rest go ls st I J B c w)  : gG E y pc ls st I J B c w Q X := by
  have hl : len = 1 := Nat.eq_of_beq_eq_true (gband (gband hck).2).2
  subst hl
  exact gp_null (gdec2 hck) (hgo.nx hsuf hck h)
theorem gs_getstatic {n : Nat} (hgo : gGo E y cd Q X go) (hsuf : ∃ pre, cd = pre ++ (pc, len, .getstatic n, a, b, v) :: rest) (hck : gck1 y (pc, len, .getstatic n, a, b, v) rest = true) (h : gsem (gC E) cd hs (hmc y) (hms y) (gL E) (gXs E) bo Q X (pc, len, .getstatic n, a, b, v) rest go ls st I J B c w) (hcl2 : (hy y).cls = gcls (hcl y)) : gG E y pc ls st I J B c w Q X := by
  obtain ⟨hl, h2⟩ := gband (gband (gband hck).2).2
  have hl := Nat.eq_of_beq_eq_true hl
  subst hl
  rcases Bool.or_eq_true_iff.mp h2 with h2 | h2
  · have h2 := of_decide_eq_true h2
    simp only [Prod.mk.injEq] at h2
    obtain ⟨rfl, h3, rfl⟩ := h2
    have hcc : (hy y).cls = "ToeplitzLab" := by rw [hcl2, h3]; rfl
    exact gp_getstatic (gdec2 hck) (by rw [hcc]; exact gw_pri) (hgo.nx hsuf hck h)
  · have h2 := of_decide_eq_true h2
    simp only [Prod.mk.injEq] at h2
    obtain ⟨rfl, h3, rfl⟩ := h2
    have hcc : (hy y).cls = "ToeplitzLabLaw" := by rw [hcl2, h3]; rfl
    exact gp_getstatic1 (gdec2 hck) (by rw [hcc]; exact gw_prL) (hgo.nx hsuf hck h)
theorem gs_newarray {t : ArrayType} (hgo : gGo E y cd Q X go) (hsuf : ∃ pre, cd = pre ++ (pc, len, .newarray t, a, b, v) :: rest) (hck : gck1 y (pc, len, .newarray t, a, b, v) rest = true) (h : gsem (gC E) cd hs (hmc y) (hms y) (gL E) (gXs E) bo Q X (pc, len, .newarray t, a, b, v) rest go ls st I J B c w)  : gG E y pc ls st I J B c w Q X := by
  replace h := gpi_e h; obtain ⟨x, r, rfl, h⟩ := h
  obtain ⟨hl, h2⟩ := gband (gband (gband hck).2).2
  have hl := Nat.eq_of_beq_eq_true hl
  subst hl
  obtain ⟨h2, h3⟩ := gband h2
  have h2 := of_decide_eq_true h2
  subst h2
  obtain ⟨hx, hst, m, ⟨h100, hg, hB⟩, hr, h⟩ := h
  
  rcases Bool.or_eq_true_iff.mp h3 with h3 | h3
  · obtain ⟨e1, e2⟩ := gband h3
    have e1 := Nat.eq_of_beq_eq_true e1
    have e2 := Nat.eq_of_beq_eq_true e2
    subst e1
    subst e2
    exact gp_newarray (gdec2 hck) rfl hx (show (7 : Nat) ≤ 1000 by decide) h100 hg hB hr (hgo.nx hsuf hck h)
  · obtain ⟨e1, e2⟩ := gband h3
    have e1 := Nat.eq_of_beq_eq_true e1
    have e2 := Nat.eq_of_beq_eq_true e2
    subst e1
    subst e2
    exact gp_newarray (gdec2 hck) rfl hx (show (5 : Nat) ≤ 1000 by decide) h100 hg hB hr (hgo.nx hsuf hck h)
theorem gs_iload_n {j : Fin 4} (hgo : gGo E y cd Q X go) (hsuf : ∃ pre, cd = pre ++ (pc, len, .iload_n j, a, b, v) :: rest) (hck : gck1 y (pc, len, .iload_n j, a, b, v) rest = true) (h : gsem (gC E) cd hs (hmc y) (hms y) (gL E) (gXs E) bo Q X (pc, len, .iload_n j, a, b, v) rest go ls st I J B c w)  : gG E y pc ls st I J B c w Q X := by
  replace h := gldv_e h; obtain ⟨u, hu, h⟩ := h
  replace h := gvi_e h; obtain ⟨x, rfl, h⟩ := h
  obtain ⟨hl, h2⟩ := gband (gband (gband hck).2).2
  have hl := Nat.eq_of_beq_eq_true hl
  subst hl
  exact gp_iload_n (gdec2 hck) (Nat.eq_of_beq_eq_true h2) hu (hgo.nx hsuf hck h)
theorem gs_lload_n {j : Fin 4} (hgo : gGo E y cd Q X go) (hsuf : ∃ pre, cd = pre ++ (pc, len, .lload_n j, a, b, v) :: rest) (hck : gck1 y (pc, len, .lload_n j, a, b, v) rest = true) (h : gsem (gC E) cd hs (hmc y) (hms y) (gL E) (gXs E) bo Q X (pc, len, .lload_n j, a, b, v) rest go ls st I J B c w)  : gG E y pc ls st I J B c w Q X := by
  replace h := gldv_e h; obtain ⟨u, hu, h⟩ := h
  replace h := gvl_e h; obtain ⟨x, rfl, h⟩ := h
  obtain ⟨hl, h2⟩ := gband (gband (gband hck).2).2
  have hl := Nat.eq_of_beq_eq_true hl
  subst hl
  exact gp_lload_n (gdec2 hck) (Nat.eq_of_beq_eq_true h2) hu (hgo.nx hsuf hck h)
theorem gs_iload {j : Nat} (hgo : gGo E y cd Q X go) (hsuf : ∃ pre, cd = pre ++ (pc, len, .iload j, a, b, v) :: rest) (hck : gck1 y (pc, len, .iload j, a, b, v) rest = true) (h : gsem (gC E) cd hs (hmc y) (hms y) (gL E) (gXs E) bo Q X (pc, len, .iload j, a, b, v) rest go ls st I J B c w)  : gG E y pc ls st I J B c w Q X := by
  replace h := gldv_e h; obtain ⟨u, hu, h⟩ := h
  replace h := gvi_e h; obtain ⟨x, rfl, h⟩ := h
  obtain ⟨hl, h2⟩ := gband (gband (gband hck).2).2
  have hl := Nat.eq_of_beq_eq_true hl
  subst hl
  have h2 := Nat.eq_of_beq_eq_true h2
  subst h2
  exact gp_iload (gdec2 hck) hu (hgo.nx hsuf hck h)
theorem gs_lload {j : Nat} (hgo : gGo E y cd Q X go) (hsuf : ∃ pre, cd = pre ++ (pc, len, .lload j, a, b, v) :: rest) (hck : gck1 y (pc, len, .lload j, a, b, v) rest = true) (h : gsem (gC E) cd hs (hmc y) (hms y) (gL E) (gXs E) bo Q X (pc, len, .lload j, a, b, v) rest go ls st I J B c w)  : gG E y pc ls st I J B c w Q X := by
  replace h := gldv_e h; obtain ⟨u, hu, h⟩ := h
  replace h := gvl_e h; obtain ⟨x, rfl, h⟩ := h
  obtain ⟨hl, h2⟩ := gband (gband (gband hck).2).2
  have hl := Nat.eq_of_beq_eq_true hl
  subst hl
  have h2 := Nat.eq_of_beq_eq_true h2
  subst h2
  exact gp_lload (gdec2 hck) hu (hgo.nx hsuf hck h)
theorem gs_dload {j : Nat} (hgo : gGo E y cd Q X go) (hsuf : ∃ pre, cd = pre ++ (pc, len, .dload j, a, b, v) :: rest) (hck : gck1 y (pc, len, .dload j, a, b, v) rest = true) (h : gsem (gC E) cd hs (hmc y) (hms y) (gL E) (gXs E) bo Q X (pc, len, .dload j, a, b, v) rest go ls st I J B c w)  : gG E y pc ls st I J B c w Q X := by
  replace h := gldv_e h; obtain ⟨u, hu, h⟩ := h
  replace h := gvd_e h; obtain ⟨x, rfl, h⟩ := h
  obtain ⟨hl, h2⟩ := gband (gband (gband hck).2).2
  have hl := Nat.eq_of_beq_eq_true hl
  subst hl
  have h2 := Nat.eq_of_beq_eq_true h2
  subst h2
  exact gp_dload (gdec2 hck) hu (hgo.nx hsuf hck h)

theorem gs_aload_n {j : Fin 4} (hgo : gGo E y cd Q X go) (hsuf : ∃ pre, cd = pre ++ (pc, len, .aload_n j, a, b, v) :: rest) (hck : gck1 y (pc, len, .aload_n j, a, b, v) rest = true) (h : gsem (gC E) cd hs (hmc y) (hms y) (gL E) (gXs E) bo Q X (pc, len, .aload_n j, a, b, v) rest go ls st I J B c w)  : gG E y pc ls st I J B c w Q X := by
  replace h := gldv_e h; obtain ⟨u, hu, h⟩ := h
  obtain ⟨hl, h2⟩ := gband (gband (gband hck).2).2
  have hl := Nat.eq_of_beq_eq_true hl
  subst hl
  replace h := gvn_e h; rcases h with ⟨rfl, h⟩ | ⟨x, rfl, h⟩
  · exact gp_aload_nN (gdec2 hck) (Nat.eq_of_beq_eq_true h2) hu (hgo.nx hsuf hck h)
  · exact gp_aload_n (gdec2 hck) (Nat.eq_of_beq_eq_true h2) hu (hgo.nx hsuf hck h)
theorem gs_aload {j : Nat} (hgo : gGo E y cd Q X go) (hsuf : ∃ pre, cd = pre ++ (pc, len, .aload j, a, b, v) :: rest) (hck : gck1 y (pc, len, .aload j, a, b, v) rest = true) (h : gsem (gC E) cd hs (hmc y) (hms y) (gL E) (gXs E) bo Q X (pc, len, .aload j, a, b, v) rest go ls st I J B c w)  : gG E y pc ls st I J B c w Q X := by
  replace h := gldv_e h; obtain ⟨u, hu, h⟩ := h
  obtain ⟨hl, h2⟩ := gband (gband (gband hck).2).2
  have hl := Nat.eq_of_beq_eq_true hl
  subst hl
  have h2 := Nat.eq_of_beq_eq_true h2
  subst h2
  replace h := gvn_e h; rcases h with ⟨rfl, h⟩ | ⟨x, rfl, h⟩
  · exact gp_aloadN (gdec2 hck) hu (hgo.nx hsuf hck h)
  · exact gp_aload (gdec2 hck) hu (hgo.nx hsuf hck h)
theorem gs_istore_n {j : Fin 4} (hgo : gGo E y cd Q X go) (hsuf : ∃ pre, cd = pre ++ (pc, len, .istore_n j, a, b, v) :: rest) (hck : gck1 y (pc, len, .istore_n j, a, b, v) rest = true) (h : gsem (gC E) cd hs (hmc y) (hms y) (gL E) (gXs E) bo Q X (pc, len, .istore_n j, a, b, v) rest go ls st I J B c w)  : gG E y pc ls st I J B c w Q X := by
  replace h := gpi_e h; obtain ⟨x, r, rfl, h⟩ := h
  obtain ⟨hl, h2⟩ := gband (gband (gband hck).2).2
  have hl := Nat.eq_of_beq_eq_true hl
  subst hl
  obtain ⟨h2, h3⟩ := gband h2
  have h2 := Nat.eq_of_beq_eq_true h2
  have h3 := Nat.le_of_ble_eq_true h3
  exact gp_istore_n (gdec2 hck) h2 h3 (hgo.nx hsuf hck h)
theorem gs_lstore_n {j : Fin 4} (hgo : gGo E y cd Q X go) (hsuf : ∃ pre, cd = pre ++ (pc, len, .lstore_n j, a, b, v) :: rest) (hck : gck1 y (pc, len, .lstore_n j, a, b, v) rest = true) (h : gsem (gC E) cd hs (hmc y) (hms y) (gL E) (gXs E) bo Q X (pc, len, .lstore_n j, a, b, v) rest go ls st I J B c w)  : gG E y pc ls st I J B c w Q X := by
  replace h := gpl_e h; obtain ⟨x, r, rfl, h⟩ := h
  obtain ⟨hl, h2⟩ := gband (gband (gband hck).2).2
  have hl := Nat.eq_of_beq_eq_true hl
  subst hl
  obtain ⟨h2, h3⟩ := gband h2
  have h2 := Nat.eq_of_beq_eq_true h2
  have h3 := Nat.le_of_ble_eq_true h3
  exact gp_lstore_n (gdec2 hck) h2 h3 (hgo.nx hsuf hck h)
theorem gs_istore {j : Nat} (hgo : gGo E y cd Q X go) (hsuf : ∃ pre, cd = pre ++ (pc, len, .istore j, a, b, v) :: rest) (hck : gck1 y (pc, len, .istore j, a, b, v) rest = true) (h : gsem (gC E) cd hs (hmc y) (hms y) (gL E) (gXs E) bo Q X (pc, len, .istore j, a, b, v) rest go ls st I J B c w)  : gG E y pc ls st I J B c w Q X := by
  replace h := gpi_e h; obtain ⟨x, r, rfl, h⟩ := h
  obtain ⟨hl, h2⟩ := gband (gband (gband hck).2).2
  have hl := Nat.eq_of_beq_eq_true hl
  subst hl
  obtain ⟨h2, h3⟩ := gband h2
  have h2 := Nat.eq_of_beq_eq_true h2
  have h3 := Nat.le_of_ble_eq_true h3
  subst h2
  exact gp_istore (gdec2 hck) h3 (hgo.nx hsuf hck h)
theorem gs_lstore {j : Nat} (hgo : gGo E y cd Q X go) (hsuf : ∃ pre, cd = pre ++ (pc, len, .lstore j, a, b, v) :: rest) (hck : gck1 y (pc, len, .lstore j, a, b, v) rest = true) (h : gsem (gC E) cd hs (hmc y) (hms y) (gL E) (gXs E) bo Q X (pc, len, .lstore j, a, b, v) rest go ls st I J B c w)  : gG E y pc ls st I J B c w Q X := by
  replace h := gpl_e h; obtain ⟨x, r, rfl, h⟩ := h
  obtain ⟨hl, h2⟩ := gband (gband (gband hck).2).2
  have hl := Nat.eq_of_beq_eq_true hl
  subst hl
  obtain ⟨h2, h3⟩ := gband h2
  have h2 := Nat.eq_of_beq_eq_true h2
  have h3 := Nat.le_of_ble_eq_true h3
  subst h2
  exact gp_lstore (gdec2 hck) h3 (hgo.nx hsuf hck h)
theorem gs_dstore {j : Nat} (hgo : gGo E y cd Q X go) (hsuf : ∃ pre, cd = pre ++ (pc, len, .dstore j, a, b, v) :: rest) (hck : gck1 y (pc, len, .dstore j, a, b, v) rest = true) (h : gsem (gC E) cd hs (hmc y) (hms y) (gL E) (gXs E) bo Q X (pc, len, .dstore j, a, b, v) rest go ls st I J B c w)  : gG E y pc ls st I J B c w Q X := by
  replace h := gpd_e h; obtain ⟨x, r, rfl, h⟩ := h
  obtain ⟨hl, h2⟩ := gband (gband (gband hck).2).2
  have hl := Nat.eq_of_beq_eq_true hl
  subst hl
  obtain ⟨h2, h3⟩ := gband h2
  have h2 := Nat.eq_of_beq_eq_true h2
  have h3 := Nat.le_of_ble_eq_true h3
  subst h2
  exact gp_dstore (gdec2 hck) h3 (hgo.nx hsuf hck h)
theorem gs_astore_n {j : Fin 4} (hgo : gGo E y cd Q X go) (hsuf : ∃ pre, cd = pre ++ (pc, len, .astore_n j, a, b, v) :: rest) (hck : gck1 y (pc, len, .astore_n j, a, b, v) rest = true) (h : gsem (gC E) cd hs (hmc y) (hms y) (gL E) (gXs E) bo Q X (pc, len, .astore_n j, a, b, v) rest go ls st I J B c w)  : gG E y pc ls st I J B c w Q X := by
  replace h := gtop_e h; obtain ⟨u, r, rfl, h⟩ := h
  obtain ⟨hl, h2⟩ := gband (gband (gband hck).2).2
  have hl := Nat.eq_of_beq_eq_true hl
  subst hl
  obtain ⟨h2, h3⟩ := gband h2
  have h2 := Nat.eq_of_beq_eq_true h2
  have h3 := Nat.le_of_ble_eq_true h3
  replace h := gvn_e h; rcases h with ⟨rfl, h⟩ | ⟨x, rfl, h⟩
  · exact gp_astore_nN (gdec2 hck) h2 h3 (hgo.nx hsuf hck h)
  · exact gp_astore_n (gdec2 hck) h2 h3 (hgo.nx hsuf hck h)
theorem gs_astore {j : Nat} (hgo : gGo E y cd Q X go) (hsuf : ∃ pre, cd = pre ++ (pc, len, .astore j, a, b, v) :: rest) (hck : gck1 y (pc, len, .astore j, a, b, v) rest = true) (h : gsem (gC E) cd hs (hmc y) (hms y) (gL E) (gXs E) bo Q X (pc, len, .astore j, a, b, v) rest go ls st I J B c w)  : gG E y pc ls st I J B c w Q X := by
  replace h := gtop_e h; obtain ⟨u, r, rfl, h⟩ := h
  obtain ⟨hl, h2⟩ := gband (gband (gband hck).2).2
  have hl := Nat.eq_of_beq_eq_true hl
  subst hl
  obtain ⟨h2, h3⟩ := gband h2
  have h2 := Nat.eq_of_beq_eq_true h2
  have h3 := Nat.le_of_ble_eq_true h3
  subst h2
  replace h := gvn_e h; rcases h with ⟨rfl, h⟩ | ⟨x, rfl, h⟩
  · exact gp_astoreN (gdec2 hck) h3 (hgo.nx hsuf hck h)
  · exact gp_astore (gdec2 hck) h3 (hgo.nx hsuf hck h)
theorem gs_iinc {j : Nat} {n : Int} (hgo : gGo E y cd Q X go) (hsuf : ∃ pre, cd = pre ++ (pc, len, .iinc j n, a, b, v) :: rest) (hck : gck1 y (pc, len, .iinc j n, a, b, v) rest = true) (h : gsem (gC E) cd hs (hmc y) (hms y) (gL E) (gXs E) bo Q X (pc, len, .iinc j n, a, b, v) rest go ls st I J B c w)  : gG E y pc ls st I J B c w Q X := by
  replace h := gldv_e h; obtain ⟨u, hu, h⟩ := h
  replace h := gvi_e h; obtain ⟨x, rfl, h⟩ := h
  replace h := gvi_e h; obtain ⟨z, rfl, h⟩ := h
  obtain ⟨hl, h2⟩ := gband (gband (gband hck).2).2
  have hl := Nat.eq_of_beq_eq_true hl
  subst hl
  obtain ⟨h2, h3⟩ := gband h2
  have h2 := Nat.eq_of_beq_eq_true h2
  subst h2
  obtain ⟨h3, h4⟩ := gband h3
  exact gp_iinc (gdec2 hck) (of_decide_eq_true (gvI_e h4 rfl)) hu (Nat.le_of_ble_eq_true h3) (hgo.nx hsuf hck h)
theorem gcat_1 {v : gV} {p q : Prop} (h : match gcat v with | 1 => p | _ => q) (hq : ¬ q) : gcat v = 1 ∧ p := by
  split at h
  · rename_i e
    exact ⟨e, h⟩
  · exact absurd h hq
theorem gs_pop  (hgo : gGo E y cd Q X go) (hsuf : ∃ pre, cd = pre ++ (pc, len, .pop, a, b, v) :: rest) (hck : gck1 y (pc, len, .pop, a, b, v) rest = true) (h : gsem (gC E) cd hs (hmc y) (hms y) (gL E) (gXs E) bo Q X (pc, len, .pop, a, b, v) rest go ls st I J B c w)  : gG E y pc ls st I J B c w Q X := by
  replace h := gtop_e h; obtain ⟨u, r, rfl, h⟩ := h
  obtain ⟨h0, h⟩ := gcat_1 h id
  have hl : len = 1 := Nat.eq_of_beq_eq_true (gband (gband hck).2).2
  subst hl
  exact gp_pop h0 (gdec2 hck) (hgo.nx hsuf hck h)
theorem gs_dup  (hgo : gGo E y cd Q X go) (hsuf : ∃ pre, cd = pre ++ (pc, len, .dup, a, b, v) :: rest) (hck : gck1 y (pc, len, .dup, a, b, v) rest = true) (h : gsem (gC E) cd hs (hmc y) (hms y) (gL E) (gXs E) bo Q X (pc, len, .dup, a, b, v) rest go ls st I J B c w)  : gG E y pc ls st I J B c w Q X := by
  replace h := gtop_e h; obtain ⟨u, r, rfl, h⟩ := h
  obtain ⟨h0, h⟩ := gcat_1 h id
  have hl : len = 1 := Nat.eq_of_beq_eq_true (gband (gband hck).2).2
  subst hl
  exact gp_dup h0 (gdec2 hck) (hgo.nx hsuf hck h)
theorem gs_dup2  (hgo : gGo E y cd Q X go) (hsuf : ∃ pre, cd = pre ++ (pc, len, .dup2, a, b, v) :: rest) (hck : gck1 y (pc, len, .dup2, a, b, v) rest = true) (h : gsem (gC E) cd hs (hmc y) (hms y) (gL E) (gXs E) bo Q X (pc, len, .dup2, a, b, v) rest go ls st I J B c w)  : gG E y pc ls st I J B c w Q X := by
  replace h := gtop_e h; obtain ⟨u, r, rfl, h⟩ := h
  have hl : len = 1 := Nat.eq_of_beq_eq_true (gband (gband hck).2).2
  subst hl
  split at h
  · rename_i e
    exact gp_dup2 e (gdec2 hck) (hgo.nx hsuf hck h)
  · rename_i e
    replace h := gtop_e h; obtain ⟨u2, r, rfl, h⟩ := h
    obtain ⟨h0, h⟩ := gcat_1 h id
    have e1 : gcat u = 1 := by
      have h7 : ∀ v : gV, gcat v = 1 ∨ gcat v = 2 := by
        intro v
        cases v with
        | inl z => cases z <;> first | exact Or.inl rfl | exact Or.inr rfl
        | inr z => exact Or.inl rfl
      rcases h7 u with h8 | h8
      · exact h8
      · exact absurd h8 e
    exact gp_dup2b e1 h0 (gdec2 hck) (hgo.nx hsuf hck h)
theorem gs_if_eq {off : Int} (hgo : gGo E y cd Q X go) (hsuf : ∃ pre, cd = pre ++ (pc, len, .ifCond .eq off, a, b, v) :: rest) (hck : gck1 y (pc, len, .ifCond .eq off, a, b, v) rest = true) (h : gsem (gC E) cd hs (hmc y) (hms y) (gL E) (gXs E) bo Q X (pc, len, .ifCond .eq off, a, b, v) rest go ls st I J B c w)  : gG E y pc ls st I J B c w Q X := by
  replace h := gpi_e h; obtain ⟨x, r, rfl, h⟩ := h
  obtain ⟨hl, h2⟩ := gband (gband (gband hck).2).2
  have hl := Nat.eq_of_beq_eq_true hl
  subst hl
  have ht := gtgt_e h2
  exact gp_if_eq (gdec2 hck) ht (fun e => hgo.jm (h.1 e)) (fun e => hgo.nx hsuf hck (h.2 e))
theorem gs_if_ne {off : Int} (hgo : gGo E y cd Q X go) (hsuf : ∃ pre, cd = pre ++ (pc, len, .ifCond .ne off, a, b, v) :: rest) (hck : gck1 y (pc, len, .ifCond .ne off, a, b, v) rest = true) (h : gsem (gC E) cd hs (hmc y) (hms y) (gL E) (gXs E) bo Q X (pc, len, .ifCond .ne off, a, b, v) rest go ls st I J B c w)  : gG E y pc ls st I J B c w Q X := by
  replace h := gpi_e h; obtain ⟨x, r, rfl, h⟩ := h
  obtain ⟨hl, h2⟩ := gband (gband (gband hck).2).2
  have hl := Nat.eq_of_beq_eq_true hl
  subst hl
  have ht := gtgt_e h2
  exact gp_if_ne (gdec2 hck) ht (fun e => hgo.jm (h.1 e)) (fun e => hgo.nx hsuf hck (h.2 e))
theorem gs_if_lt {off : Int} (hgo : gGo E y cd Q X go) (hsuf : ∃ pre, cd = pre ++ (pc, len, .ifCond .lt off, a, b, v) :: rest) (hck : gck1 y (pc, len, .ifCond .lt off, a, b, v) rest = true) (h : gsem (gC E) cd hs (hmc y) (hms y) (gL E) (gXs E) bo Q X (pc, len, .ifCond .lt off, a, b, v) rest go ls st I J B c w)  : gG E y pc ls st I J B c w Q X := by
  replace h := gpi_e h; obtain ⟨x, r, rfl, h⟩ := h
  obtain ⟨hl, h2⟩ := gband (gband (gband hck).2).2
  have hl := Nat.eq_of_beq_eq_true hl
  subst hl
  have ht := gtgt_e h2
  exact gp_if_lt (gdec2 hck) ht (fun e => hgo.jm (h.1 e)) (fun e => hgo.nx hsuf hck (h.2 e))
theorem gs_if_ge {off : Int} (hgo : gGo E y cd Q X go) (hsuf : ∃ pre, cd = pre ++ (pc, len, .ifCond .ge off, a, b, v) :: rest) (hck : gck1 y (pc, len, .ifCond .ge off, a, b, v) rest = true) (h : gsem (gC E) cd hs (hmc y) (hms y) (gL E) (gXs E) bo Q X (pc, len, .ifCond .ge off, a, b, v) rest go ls st I J B c w)  : gG E y pc ls st I J B c w Q X := by
  replace h := gpi_e h; obtain ⟨x, r, rfl, h⟩ := h
  obtain ⟨hl, h2⟩ := gband (gband (gband hck).2).2
  have hl := Nat.eq_of_beq_eq_true hl
  subst hl
  have ht := gtgt_e h2
  exact gp_if_ge (gdec2 hck) ht (fun e => hgo.jm (h.1 e)) (fun e => hgo.nx hsuf hck (h.2 e))
theorem gs_if_gt {off : Int} (hgo : gGo E y cd Q X go) (hsuf : ∃ pre, cd = pre ++ (pc, len, .ifCond .gt off, a, b, v) :: rest) (hck : gck1 y (pc, len, .ifCond .gt off, a, b, v) rest = true) (h : gsem (gC E) cd hs (hmc y) (hms y) (gL E) (gXs E) bo Q X (pc, len, .ifCond .gt off, a, b, v) rest go ls st I J B c w)  : gG E y pc ls st I J B c w Q X := by
  replace h := gpi_e h; obtain ⟨x, r, rfl, h⟩ := h
  obtain ⟨hl, h2⟩ := gband (gband (gband hck).2).2
  have hl := Nat.eq_of_beq_eq_true hl
  subst hl
  have ht := gtgt_e h2
  exact gp_if_gt (gdec2 hck) ht (fun e => hgo.jm (h.1 e)) (fun e => hgo.nx hsuf hck (h.2 e))
theorem gs_if_le {off : Int} (hgo : gGo E y cd Q X go) (hsuf : ∃ pre, cd = pre ++ (pc, len, .ifCond .le off, a, b, v) :: rest) (hck : gck1 y (pc, len, .ifCond .le off, a, b, v) rest = true) (h : gsem (gC E) cd hs (hmc y) (hms y) (gL E) (gXs E) bo Q X (pc, len, .ifCond .le off, a, b, v) rest go ls st I J B c w)  : gG E y pc ls st I J B c w Q X := by
  replace h := gpi_e h; obtain ⟨x, r, rfl, h⟩ := h
  obtain ⟨hl, h2⟩ := gband (gband (gband hck).2).2
  have hl := Nat.eq_of_beq_eq_true hl
  subst hl
  have ht := gtgt_e h2
  exact gp_if_le (gdec2 hck) ht (fun e => hgo.jm (h.1 e)) (fun e => hgo.nx hsuf hck (h.2 e))
theorem gs_icmp_eq {off : Int} (hgo : gGo E y cd Q X go) (hsuf : ∃ pre, cd = pre ++ (pc, len, .if_icmp .eq off, a, b, v) :: rest) (hck : gck1 y (pc, len, .if_icmp .eq off, a, b, v) rest = true) (h : gsem (gC E) cd hs (hmc y) (hms y) (gL E) (gXs E) bo Q X (pc, len, .if_icmp .eq off, a, b, v) rest go ls st I J B c w)  : gG E y pc ls st I J B c w Q X := by
  replace h := gpi_e h; obtain ⟨z, r, rfl, h⟩ := h
  replace h := gpi_e h; obtain ⟨x, r, rfl, h⟩ := h
  obtain ⟨hl, h2⟩ := gband (gband (gband hck).2).2
  have hl := Nat.eq_of_beq_eq_true hl
  subst hl
  have ht := gtgt_e h2
  exact gp_icmp_eq (gdec2 hck) ht (fun e => hgo.jm (h.1 e)) (fun e => hgo.nx hsuf hck (h.2 e))
theorem gs_icmp_ne {off : Int} (hgo : gGo E y cd Q X go) (hsuf : ∃ pre, cd = pre ++ (pc, len, .if_icmp .ne off, a, b, v) :: rest) (hck : gck1 y (pc, len, .if_icmp .ne off, a, b, v) rest = true) (h : gsem (gC E) cd hs (hmc y) (hms y) (gL E) (gXs E) bo Q X (pc, len, .if_icmp .ne off, a, b, v) rest go ls st I J B c w)  : gG E y pc ls st I J B c w Q X := by
  replace h := gpi_e h; obtain ⟨z, r, rfl, h⟩ := h
  replace h := gpi_e h; obtain ⟨x, r, rfl, h⟩ := h
  obtain ⟨hl, h2⟩ := gband (gband (gband hck).2).2
  have hl := Nat.eq_of_beq_eq_true hl
  subst hl
  have ht := gtgt_e h2
  exact gp_icmp_ne (gdec2 hck) ht (fun e => hgo.jm (h.1 e)) (fun e => hgo.nx hsuf hck (h.2 e))
theorem gs_icmp_lt {off : Int} (hgo : gGo E y cd Q X go) (hsuf : ∃ pre, cd = pre ++ (pc, len, .if_icmp .lt off, a, b, v) :: rest) (hck : gck1 y (pc, len, .if_icmp .lt off, a, b, v) rest = true) (h : gsem (gC E) cd hs (hmc y) (hms y) (gL E) (gXs E) bo Q X (pc, len, .if_icmp .lt off, a, b, v) rest go ls st I J B c w)  : gG E y pc ls st I J B c w Q X := by
  replace h := gpi_e h; obtain ⟨z, r, rfl, h⟩ := h
  replace h := gpi_e h; obtain ⟨x, r, rfl, h⟩ := h
  obtain ⟨hl, h2⟩ := gband (gband (gband hck).2).2
  have hl := Nat.eq_of_beq_eq_true hl
  subst hl
  have ht := gtgt_e h2
  exact gp_icmp_lt (gdec2 hck) ht (fun e => hgo.jm (h.1 e)) (fun e => hgo.nx hsuf hck (h.2 e))
theorem gs_icmp_ge {off : Int} (hgo : gGo E y cd Q X go) (hsuf : ∃ pre, cd = pre ++ (pc, len, .if_icmp .ge off, a, b, v) :: rest) (hck : gck1 y (pc, len, .if_icmp .ge off, a, b, v) rest = true) (h : gsem (gC E) cd hs (hmc y) (hms y) (gL E) (gXs E) bo Q X (pc, len, .if_icmp .ge off, a, b, v) rest go ls st I J B c w)  : gG E y pc ls st I J B c w Q X := by
  replace h := gpi_e h; obtain ⟨z, r, rfl, h⟩ := h
  replace h := gpi_e h; obtain ⟨x, r, rfl, h⟩ := h
  obtain ⟨hl, h2⟩ := gband (gband (gband hck).2).2
  have hl := Nat.eq_of_beq_eq_true hl
  subst hl
  have ht := gtgt_e h2
  exact gp_icmp_ge (gdec2 hck) ht (fun e => hgo.jm (h.1 e)) (fun e => hgo.nx hsuf hck (h.2 e))
theorem gs_icmp_gt {off : Int} (hgo : gGo E y cd Q X go) (hsuf : ∃ pre, cd = pre ++ (pc, len, .if_icmp .gt off, a, b, v) :: rest) (hck : gck1 y (pc, len, .if_icmp .gt off, a, b, v) rest = true) (h : gsem (gC E) cd hs (hmc y) (hms y) (gL E) (gXs E) bo Q X (pc, len, .if_icmp .gt off, a, b, v) rest go ls st I J B c w)  : gG E y pc ls st I J B c w Q X := by
  replace h := gpi_e h; obtain ⟨z, r, rfl, h⟩ := h
  replace h := gpi_e h; obtain ⟨x, r, rfl, h⟩ := h
  obtain ⟨hl, h2⟩ := gband (gband (gband hck).2).2
  have hl := Nat.eq_of_beq_eq_true hl
  subst hl
  have ht := gtgt_e h2
  exact gp_icmp_gt (gdec2 hck) ht (fun e => hgo.jm (h.1 e)) (fun e => hgo.nx hsuf hck (h.2 e))
theorem gs_icmp_le {off : Int} (hgo : gGo E y cd Q X go) (hsuf : ∃ pre, cd = pre ++ (pc, len, .if_icmp .le off, a, b, v) :: rest) (hck : gck1 y (pc, len, .if_icmp .le off, a, b, v) rest = true) (h : gsem (gC E) cd hs (hmc y) (hms y) (gL E) (gXs E) bo Q X (pc, len, .if_icmp .le off, a, b, v) rest go ls st I J B c w)  : gG E y pc ls st I J B c w Q X := by
  replace h := gpi_e h; obtain ⟨z, r, rfl, h⟩ := h
  replace h := gpi_e h; obtain ⟨x, r, rfl, h⟩ := h
  obtain ⟨hl, h2⟩ := gband (gband (gband hck).2).2
  have hl := Nat.eq_of_beq_eq_true hl
  subst hl
  have ht := gtgt_e h2
  exact gp_icmp_le (gdec2 hck) ht (fun e => hgo.jm (h.1 e)) (fun e => hgo.nx hsuf hck (h.2 e))
theorem gs_goto {off : Int} (hgo : gGo E y cd Q X go) (hsuf : ∃ pre, cd = pre ++ (pc, len, .goto off, a, b, v) :: rest) (hck : gck1 y (pc, len, .goto off, a, b, v) rest = true) (h : gsem (gC E) cd hs (hmc y) (hms y) (gL E) (gXs E) bo Q X (pc, len, .goto off, a, b, v) rest go ls st I J B c w)  : gG E y pc ls st I J B c w Q X := by
  obtain ⟨hl, h2⟩ := gband (gband (gband hck).2).2
  have hl := Nat.eq_of_beq_eq_true hl
  subst hl
  have ht := gtgt_e h2
  exact gp_goto (gdec2 hck) ht (hgo.jm h)
theorem gs_ifnull {off : Int} (hgo : gGo E y cd Q X go) (hsuf : ∃ pre, cd = pre ++ (pc, len, .ifnull off, a, b, v) :: rest) (hck : gck1 y (pc, len, .ifnull off, a, b, v) rest = true) (h : gsem (gC E) cd hs (hmc y) (hms y) (gL E) (gXs E) bo Q X (pc, len, .ifnull off, a, b, v) rest go ls st I J B c w)  : gG E y pc ls st I J B c w Q X := by
  replace h := gtop_e h; obtain ⟨u, r, rfl, h⟩ := h
  obtain ⟨hl, h2⟩ := gband (gband (gband hck).2).2
  have hl := Nat.eq_of_beq_eq_true hl
  subst hl
  have ht := gtgt_e h2
  replace h := gvn_e h; rcases h with ⟨rfl, h⟩ | ⟨x, rfl, h⟩
  · exact gp_ifnull_n (gdec2 hck) ht (hgo.jm h)
  · exact gp_ifnull_r (gdec2 hck) (hgo.nx hsuf hck h)
theorem gs_ifnonnull {off : Int} (hgo : gGo E y cd Q X go) (hsuf : ∃ pre, cd = pre ++ (pc, len, .ifnonnull off, a, b, v) :: rest) (hck : gck1 y (pc, len, .ifnonnull off, a, b, v) rest = true) (h : gsem (gC E) cd hs (hmc y) (hms y) (gL E) (gXs E) bo Q X (pc, len, .ifnonnull off, a, b, v) rest go ls st I J B c w)  : gG E y pc ls st I J B c w Q X := by
  replace h := gtop_e h; obtain ⟨u, r, rfl, h⟩ := h
  obtain ⟨hl, h2⟩ := gband (gband (gband hck).2).2
  have hl := Nat.eq_of_beq_eq_true hl
  subst hl
  have ht := gtgt_e h2
  replace h := gvn_e h; rcases h with ⟨rfl, h⟩ | ⟨x, rfl, h⟩
  · exact gp_ifnonnull_n (gdec2 hck) (hgo.nx hsuf hck h)
  · exact gp_ifnonnull_r (gdec2 hck) ht (hgo.jm h)
theorem gial_m {L : Nat} {xs : Nat → Int32} {q : gR} {i : Int32} {k k2 : Int32 → Prop} (hk : ∀ x, k x → k2 x) (h : gial L xs I q i k) : gial L xs I q i k2 := by
  unfold gial at h ⊢
  split at h
  · exact ⟨h.1, hk _ h.2⟩
  · exact ⟨h.1, hk _ h.2⟩
  · split at h
    · exact ⟨h.1, hk _ h.2⟩
    · exact absurd h id
theorem gbal_m {q : gR} {i : Int32} {k k2 : Int32 → Prop} (hk : ∀ x, k x → k2 x) (h : gbal I q i k) : gbal I q i k2 := by
  unfold gbal at h ⊢
  split at h
  · exact ⟨h.1, hk _ h.2⟩
  · exact ⟨h.1, hk _ h.2⟩
  · exact absurd h id
theorem glal_m {q : gR} {i : Int32} {k k2 : Int64 → Prop} (hk : ∀ x, k x → k2 x) (h : glal J q i k) : glal J q i k2 := by
  unfold glal at h ⊢
  split at h
  · exact ⟨h.1, hk _ h.2⟩
  · exact absurd h id
theorem gdal_m {q : gR} {i : Int32} {k k2 : UInt64 → Prop} (hk : ∀ x, k x → k2 x) (h : gdal J q i k) : gdal J q i k2 := by
  unfold gdal at h ⊢
  split at h
  · exact ⟨h.1, hk _ h.2⟩
  · exact absurd h id
theorem gaal_m {q : gR} {i : Int32} {k k2 : gV → Prop} (hk : ∀ x, k x → k2 x) (h : gaal B q i k) : gaal B q i k2 := by
  unfold gaal at h ⊢
  split at h
  · exact ⟨h.1, hk _ h.2⟩
  · exact ⟨h.1, fun e => hk _ (h.2.1 e), fun e => hk _ (h.2.2 e)⟩
  · exact absurd h id
theorem gias_m {q : gR} {i x : Int32} {k k2 : gI → Prop} (hk : ∀ x, k x → k2 x) (h : gias I q i x k) : gias I q i x k2 := by
  unfold gias at h ⊢
  split at h
  · exact ⟨h.1, hk _ h.2⟩
  · exact absurd h id
theorem gbas_m {q : gR} {i x : Int32} {k k2 : gI → Prop} (hk : ∀ x, k x → k2 x) (h : gbas I q i x k) : gbas I q i x k2 := by
  unfold gbas at h ⊢
  split at h
  · exact ⟨h.1, hk _ h.2⟩
  · exact ⟨h.1, hk _ h.2⟩
  · exact absurd h id
theorem glas_m {q : gR} {i : Int32} {x : Int64} {k k2 : gJ → Prop} (hk : ∀ x, k x → k2 x) (h : glas J q i x k) : glas J q i x k2 := by
  unfold glas at h ⊢
  split at h
  · exact ⟨h.1, hk _ h.2⟩
  · exact absurd h id
theorem gdas_m {q : gR} {i : Int32} {x : UInt64} {k k2 : gJ → Prop} (hk : ∀ x, k x → k2 x) (h : gdas J q i x k) : gdas J q i x k2 := by
  unfold gdas at h ⊢
  split at h
  · exact ⟨h.1, hk _ h.2⟩
  · exact absurd h id
theorem gaas_m {q u : gR} {i : Int32} {k k2 : gB → Prop} (hk : ∀ x, k x → k2 x) (h : gaas B q u i k) : gaas B q u i k2 := by
  unfold gaas at h ⊢
  split at h
  · exact ⟨h.1, h.2.1, hk _ h.2.2⟩
  · exact absurd h id
theorem gln_m {L : Nat} {q : gR} {k k2 : Int32 → Prop} (hk : ∀ x, k x → k2 x) (h : gln L q k) : gln L q k2 := by
  unfold gln at h ⊢
  split at h
  · exact hk _ h
  · exact hk _ h
  · split at h
    · exact hk _ h
    · exact absurd h id
theorem gfg_m {q : gR} {a b : Nat} {k k2 : gV → Prop} (hk : ∀ x, k x → k2 x) (h : gfg I J q a b k) : gfg I J q a b k2 := by
  unfold gfg at h ⊢
  split at h
  · split at h
    · exact hk _ h
    · exact hk _ h
    · exact hk _ h
    · exact absurd h id
    · exact hk _ h
    · exact absurd h id
  · exact absurd h id
theorem gvi_m {v : gV} {k k2 : Int32 → Prop} (hk : ∀ x, k x → k2 x) (h : gvi v k) : gvi v k2 := by
  replace h := gvi_e h; obtain ⟨x, rfl, h⟩ := h
  exact hk _ h
theorem gvl_m {v : gV} {k k2 : Int64 → Prop} (hk : ∀ x, k x → k2 x) (h : gvl v k) : gvl v k2 := by
  replace h := gvl_e h; obtain ⟨x, rfl, h⟩ := h
  exact hk _ h
theorem gfp_m {q : gR} {a b : Nat} {v : gV} {k k2 : gI → gJ → Prop} (hk : ∀ x z, k x z → k2 x z) (h : gfp I J q a b v k) : gfp I J q a b v k2 := by
  unfold gfp at h ⊢
  split at h
  · split at h
    · exact gvi_m (fun x h => hk _ _ h) h
    · exact gvl_m (fun x h => hk _ _ h) h
    · exact gvi_m (fun x h => ⟨h.1, hk _ _ h.2⟩) h
    · exact absurd h id
  · exact absurd h id
theorem gcpy_m {s0 d : gR} {sp dp n : Int32} {k k2 : gI → gJ → Prop} (hk : ∀ x z, k x z → k2 x z) (h : gcpy I J s0 d sp dp n k) : gcpy I J s0 d sp dp n k2 := by
  unfold gcpy at h ⊢
  split at h
  · exact ⟨h.1, hk _ _ h.2⟩
  · exact ⟨h.1, hk _ _ h.2⟩
  · exact absurd h id
theorem gs_iaload  (hgo : gGo E y cd Q X go) (hsuf : ∃ pre, cd = pre ++ (pc, len, .iaload, a, b, v) :: rest) (hck : gck1 y (pc, len, .iaload, a, b, v) rest = true) (h : gsem (gC E) cd hs (hmc y) (hms y) (gL E) (gXs E) bo Q X (pc, len, .iaload, a, b, v) rest go ls st I J B c w)  : gG E y pc ls st I J B c w Q X := by
  replace h := gpi_e h; obtain ⟨i, r, rfl, h⟩ := h
  replace h := gpr_e h; obtain ⟨q, r, rfl, h⟩ := h
  have hl : len = 1 := Nat.eq_of_beq_eq_true (gband (gband hck).2).2
  subst hl
  exact gp_iaload (gdec2 hck) (gial_m (fun x h => hgo.nx hsuf hck h) h)
theorem gs_baload  (hgo : gGo E y cd Q X go) (hsuf : ∃ pre, cd = pre ++ (pc, len, .baload, a, b, v) :: rest) (hck : gck1 y (pc, len, .baload, a, b, v) rest = true) (h : gsem (gC E) cd hs (hmc y) (hms y) (gL E) (gXs E) bo Q X (pc, len, .baload, a, b, v) rest go ls st I J B c w)  : gG E y pc ls st I J B c w Q X := by
  replace h := gpi_e h; obtain ⟨i, r, rfl, h⟩ := h
  replace h := gpr_e h; obtain ⟨q, r, rfl, h⟩ := h
  have hl : len = 1 := Nat.eq_of_beq_eq_true (gband (gband hck).2).2
  subst hl
  exact gp_baload (gdec2 hck) (gbal_m (fun x h => hgo.nx hsuf hck h) h)
theorem gs_laload  (hgo : gGo E y cd Q X go) (hsuf : ∃ pre, cd = pre ++ (pc, len, .laload, a, b, v) :: rest) (hck : gck1 y (pc, len, .laload, a, b, v) rest = true) (h : gsem (gC E) cd hs (hmc y) (hms y) (gL E) (gXs E) bo Q X (pc, len, .laload, a, b, v) rest go ls st I J B c w)  : gG E y pc ls st I J B c w Q X := by
  replace h := gpi_e h; obtain ⟨i, r, rfl, h⟩ := h
  replace h := gpr_e h; obtain ⟨q, r, rfl, h⟩ := h
  have hl : len = 1 := Nat.eq_of_beq_eq_true (gband (gband hck).2).2
  subst hl
  exact gp_laload (gdec2 hck) (glal_m (fun x h => hgo.nx hsuf hck h) h)
theorem gs_daload  (hgo : gGo E y cd Q X go) (hsuf : ∃ pre, cd = pre ++ (pc, len, .daload, a, b, v) :: rest) (hck : gck1 y (pc, len, .daload, a, b, v) rest = true) (h : gsem (gC E) cd hs (hmc y) (hms y) (gL E) (gXs E) bo Q X (pc, len, .daload, a, b, v) rest go ls st I J B c w)  : gG E y pc ls st I J B c w Q X := by
  replace h := gpi_e h; obtain ⟨i, r, rfl, h⟩ := h
  replace h := gpr_e h; obtain ⟨q, r, rfl, h⟩ := h
  have hl : len = 1 := Nat.eq_of_beq_eq_true (gband (gband hck).2).2
  subst hl
  exact gp_daload (gdec2 hck) (gdal_m (fun x h => hgo.nx hsuf hck h) h)
theorem gs_aaload  (hgo : gGo E y cd Q X go) (hsuf : ∃ pre, cd = pre ++ (pc, len, .aaload, a, b, v) :: rest) (hck : gck1 y (pc, len, .aaload, a, b, v) rest = true) (h : gsem (gC E) cd hs (hmc y) (hms y) (gL E) (gXs E) bo Q X (pc, len, .aaload, a, b, v) rest go ls st I J B c w)  : gG E y pc ls st I J B c w Q X := by
  replace h := gpi_e h; obtain ⟨i, r, rfl, h⟩ := h
  replace h := gpr_e h; obtain ⟨q, r, rfl, h⟩ := h
  have hl : len = 1 := Nat.eq_of_beq_eq_true (gband (gband hck).2).2
  subst hl
  exact gp_aaload (gdec2 hck) (gaal_m (fun x h => hgo.nx hsuf hck h) h)
theorem gs_iastore  (hgo : gGo E y cd Q X go) (hsuf : ∃ pre, cd = pre ++ (pc, len, .iastore, a, b, v) :: rest) (hck : gck1 y (pc, len, .iastore, a, b, v) rest = true) (h : gsem (gC E) cd hs (hmc y) (hms y) (gL E) (gXs E) bo Q X (pc, len, .iastore, a, b, v) rest go ls st I J B c w)  : gG E y pc ls st I J B c w Q X := by
  replace h := gpi_e h; obtain ⟨x, r, rfl, h⟩ := h
  replace h := gpi_e h; obtain ⟨i, r, rfl, h⟩ := h
  replace h := gpr_e h; obtain ⟨q, r, rfl, h⟩ := h
  have hl : len = 1 := Nat.eq_of_beq_eq_true (gband (gband hck).2).2
  subst hl
  exact gp_iastore (gdec2 hck) (gias_m (fun x h => hgo.nx hsuf hck h) h)
theorem gs_bastore  (hgo : gGo E y cd Q X go) (hsuf : ∃ pre, cd = pre ++ (pc, len, .bastore, a, b, v) :: rest) (hck : gck1 y (pc, len, .bastore, a, b, v) rest = true) (h : gsem (gC E) cd hs (hmc y) (hms y) (gL E) (gXs E) bo Q X (pc, len, .bastore, a, b, v) rest go ls st I J B c w)  : gG E y pc ls st I J B c w Q X := by
  replace h := gpi_e h; obtain ⟨x, r, rfl, h⟩ := h
  replace h := gpi_e h; obtain ⟨i, r, rfl, h⟩ := h
  replace h := gpr_e h; obtain ⟨q, r, rfl, h⟩ := h
  have hl : len = 1 := Nat.eq_of_beq_eq_true (gband (gband hck).2).2
  subst hl
  exact gp_bastore (gdec2 hck) (gbas_m (fun x h => hgo.nx hsuf hck h) h)
theorem gs_lastore  (hgo : gGo E y cd Q X go) (hsuf : ∃ pre, cd = pre ++ (pc, len, .lastore, a, b, v) :: rest) (hck : gck1 y (pc, len, .lastore, a, b, v) rest = true) (h : gsem (gC E) cd hs (hmc y) (hms y) (gL E) (gXs E) bo Q X (pc, len, .lastore, a, b, v) rest go ls st I J B c w)  : gG E y pc ls st I J B c w Q X := by
  replace h := gpl_e h; obtain ⟨x, r, rfl, h⟩ := h
  replace h := gpi_e h; obtain ⟨i, r, rfl, h⟩ := h
  replace h := gpr_e h; obtain ⟨q, r, rfl, h⟩ := h
  have hl : len = 1 := Nat.eq_of_beq_eq_true (gband (gband hck).2).2
  subst hl
  exact gp_lastore (gdec2 hck) (glas_m (fun x h => hgo.nx hsuf hck h) h)
theorem gs_dastore  (hgo : gGo E y cd Q X go) (hsuf : ∃ pre, cd = pre ++ (pc, len, .dastore, a, b, v) :: rest) (hck : gck1 y (pc, len, .dastore, a, b, v) rest = true) (h : gsem (gC E) cd hs (hmc y) (hms y) (gL E) (gXs E) bo Q X (pc, len, .dastore, a, b, v) rest go ls st I J B c w)  : gG E y pc ls st I J B c w Q X := by
  replace h := gpd_e h; obtain ⟨x, r, rfl, h⟩ := h
  replace h := gpi_e h; obtain ⟨i, r, rfl, h⟩ := h
  replace h := gpr_e h; obtain ⟨q, r, rfl, h⟩ := h
  have hl : len = 1 := Nat.eq_of_beq_eq_true (gband (gband hck).2).2
  subst hl
  exact gp_dastore (gdec2 hck) (gdas_m (fun x h => hgo.nx hsuf hck h) h)
theorem gs_aastore  (hgo : gGo E y cd Q X go) (hsuf : ∃ pre, cd = pre ++ (pc, len, .aastore, a, b, v) :: rest) (hck : gck1 y (pc, len, .aastore, a, b, v) rest = true) (h : gsem (gC E) cd hs (hmc y) (hms y) (gL E) (gXs E) bo Q X (pc, len, .aastore, a, b, v) rest go ls st I J B c w)  : gG E y pc ls st I J B c w Q X := by
  replace h := gpr_e h; obtain ⟨x, r, rfl, h⟩ := h
  replace h := gpi_e h; obtain ⟨i, r, rfl, h⟩ := h
  replace h := gpr_e h; obtain ⟨q, r, rfl, h⟩ := h
  have hl : len = 1 := Nat.eq_of_beq_eq_true (gband (gband hck).2).2
  subst hl
  exact gp_aastore (gdec2 hck) (gaas_m (fun x h => hgo.nx hsuf hck h) h)
theorem gs_arraylength  (hgo : gGo E y cd Q X go) (hsuf : ∃ pre, cd = pre ++ (pc, len, .arraylength, a, b, v) :: rest) (hck : gck1 y (pc, len, .arraylength, a, b, v) rest = true) (h : gsem (gC E) cd hs (hmc y) (hms y) (gL E) (gXs E) bo Q X (pc, len, .arraylength, a, b, v) rest go ls st I J B c w)  : gG E y pc ls st I J B c w Q X := by
  replace h := gpr_e h; obtain ⟨q, r, rfl, h⟩ := h
  have hl : len = 1 := Nat.eq_of_beq_eq_true (gband (gband hck).2).2
  subst hl
  exact gp_arraylength (gdec2 hck) (gln_m (fun x h => hgo.nx hsuf hck h) h)
theorem gfl_of {n ci b : Nat} {own : Nat} (hci : ci < 10) (hb2 : b < gsz ci) (h : (gFT.contains (own, n, ci, b) || gFN.contains (own, n, ci, b)) = true) : gFl (gcls own) n ci b := by
  refine gFl_of hci hb2 ?_
  rcases Bool.or_eq_true_iff.mp h with h | h
  · exact Or.inl (gFT_ok _ (List.contains_iff_mem.mp h))
  · exact Or.inr (gFN_ok _ (List.contains_iff_mem.mp h))
theorem gs_getfield {n : Nat} (hgo : gGo E y cd Q X go) (hsuf : ∃ pre, cd = pre ++ (pc, len, .getfield n, a, b, v) :: rest) (hck : gck1 y (pc, len, .getfield n, a, b, v) rest = true) (h : gsem (gC E) cd hs (hmc y) (hms y) (gL E) (gXs E) bo Q X (pc, len, .getfield n, a, b, v) rest go ls st I J B c w) (hcl2 : (hy y).cls = gcls (hcl y)) : gG E y pc ls st I J B c w Q X := by
  replace h := gpr_e h; obtain ⟨q, r, rfl, h⟩ := h
  obtain ⟨hl, h2⟩ := gband (gband (gband hck).2).2
  have hl := Nat.eq_of_beq_eq_true hl
  subst hl
  refine gp_getfield (a := a) (b := b) (gdec2 hck) ?_ (gfg_m (fun x h => hgo.nx hsuf hck h) h)
  intro z hz
  rw [hz] at h2
  obtain ⟨ci, fl⟩ := z
  obtain ⟨h2, h3⟩ := gband h2
  obtain ⟨h3, h4⟩ := gband h3
  rw [hcl2]
  exact gfl_of (Nat.le_of_ble_eq_true h2) (Nat.le_of_ble_eq_true h3) h4
theorem gs_putfield {n : Nat} (hgo : gGo E y cd Q X go) (hsuf : ∃ pre, cd = pre ++ (pc, len, .putfield n, a, b, v) :: rest) (hck : gck1 y (pc, len, .putfield n, a, b, v) rest = true) (h : gsem (gC E) cd hs (hmc y) (hms y) (gL E) (gXs E) bo Q X (pc, len, .putfield n, a, b, v) rest go ls st I J B c w) (hcl2 : (hy y).cls = gcls (hcl y)) : gG E y pc ls st I J B c w Q X := by
  replace h := gtop_e h; obtain ⟨x, r, rfl, h⟩ := h
  replace h := gpr_e h; obtain ⟨q, r, rfl, h⟩ := h
  obtain ⟨hl, h2⟩ := gband (gband (gband hck).2).2
  have hl := Nat.eq_of_beq_eq_true hl
  subst hl
  refine gp_putfield (a := a) (b := b) (gdec2 hck) ?_ (gfp_m (fun x z h => hgo.nx hsuf hck h) h)
  intro z hz
  rw [hz] at h2
  obtain ⟨ci, fl⟩ := z
  obtain ⟨h2, h3⟩ := gband h2
  obtain ⟨h3, h4⟩ := gband h3
  obtain ⟨h4, h5⟩ := gband h4
  rw [hcl2]
  refine ⟨gfl_of (Nat.le_of_ble_eq_true h2) (Nat.le_of_ble_eq_true h3) h4, fun u hu hu2 => ?_⟩
  simp only at hu h5
  rw [hu] at h5
  rcases Bool.or_eq_true_iff.mp h5 with h6 | h6
  · exact absurd (Nat.le_of_ble_eq_true h6) (by omega)
  · exact gFWt_ok _ (List.contains_iff_mem.mp h6)
theorem gs_ireturn  (hgo : gGo E y cd Q X go) (hsuf : ∃ pre, cd = pre ++ (pc, len, .ireturn, a, b, v) :: rest) (hck : gck1 y (pc, len, .ireturn, a, b, v) rest = true) (h : gsem (gC E) cd hs (hmc y) (hms y) (gL E) (gXs E) bo Q X (pc, len, .ireturn, a, b, v) rest go ls st I J B c w) (hbo : bo = true ↔ hr y = some .boolean) : gG E y pc ls st I J B c w Q X := by
  replace h := gpi_e h; obtain ⟨x, r, rfl, h⟩ := h
  replace h := gno_e h; obtain ⟨rfl, h⟩ := h
  obtain ⟨hl, h2⟩ := gband (gband (gband hck).2).2
  have hl := Nat.eq_of_beq_eq_true hl
  subst hl
  cases bo with
  | true =>
    have e := hbo.mp rfl
    refine gp_zreturn (gdec2 hck) e ?_ h.2
    rcases h.1 with rfl | rfl <;> rfl
  | false =>
    rcases Bool.or_eq_true_iff.mp h2 with h3 | h3
    · exact gp_ireturn (gdec2 hck) (of_decide_eq_true h3) h
    · exact absurd (hbo.mpr (of_decide_eq_true h3)) (by simp)
theorem gs_lreturn  (hgo : gGo E y cd Q X go) (hsuf : ∃ pre, cd = pre ++ (pc, len, .lreturn, a, b, v) :: rest) (hck : gck1 y (pc, len, .lreturn, a, b, v) rest = true) (h : gsem (gC E) cd hs (hmc y) (hms y) (gL E) (gXs E) bo Q X (pc, len, .lreturn, a, b, v) rest go ls st I J B c w)  : gG E y pc ls st I J B c w Q X := by
  replace h := gpl_e h; obtain ⟨x, r, rfl, h⟩ := h
  replace h := gno_e h; obtain ⟨rfl, h⟩ := h
  obtain ⟨hl, h2⟩ := gband (gband (gband hck).2).2
  have hl := Nat.eq_of_beq_eq_true hl
  subst hl
  exact gp_lreturn (gdec2 hck) (of_decide_eq_true h2) h
theorem gs_dreturn  (hgo : gGo E y cd Q X go) (hsuf : ∃ pre, cd = pre ++ (pc, len, .dreturn, a, b, v) :: rest) (hck : gck1 y (pc, len, .dreturn, a, b, v) rest = true) (h : gsem (gC E) cd hs (hmc y) (hms y) (gL E) (gXs E) bo Q X (pc, len, .dreturn, a, b, v) rest go ls st I J B c w)  : gG E y pc ls st I J B c w Q X := by
  replace h := gpd_e h; obtain ⟨x, r, rfl, h⟩ := h
  replace h := gno_e h; obtain ⟨rfl, h⟩ := h
  obtain ⟨hl, h2⟩ := gband (gband (gband hck).2).2
  have hl := Nat.eq_of_beq_eq_true hl
  subst hl
  exact gp_dreturn (gdec2 hck) (of_decide_eq_true h2) h
theorem gs_areturn  (hgo : gGo E y cd Q X go) (hsuf : ∃ pre, cd = pre ++ (pc, len, .areturn, a, b, v) :: rest) (hck : gck1 y (pc, len, .areturn, a, b, v) rest = true) (h : gsem (gC E) cd hs (hmc y) (hms y) (gL E) (gXs E) bo Q X (pc, len, .areturn, a, b, v) rest go ls st I J B c w)  : gG E y pc ls st I J B c w Q X := by
  replace h := gtop_e h; obtain ⟨u, r, rfl, h⟩ := h
  replace h := gno_e h; obtain ⟨rfl, h⟩ := h
  obtain ⟨hl, h2⟩ := gband (gband (gband hck).2).2
  have hl := Nat.eq_of_beq_eq_true hl
  subst hl
  replace h := gvn_e h; rcases h with ⟨rfl, h⟩ | ⟨x, rfl, h⟩
  · exact gp_areturn (gdec2 hck) (of_decide_eq_true h2) (Or.inl rfl) h
  · exact gp_areturn (gdec2 hck) (of_decide_eq_true h2) (Or.inr ⟨x, rfl⟩) h
theorem gs_return  (hgo : gGo E y cd Q X go) (hsuf : ∃ pre, cd = pre ++ (pc, len, .return_, a, b, v) :: rest) (hck : gck1 y (pc, len, .return_, a, b, v) rest = true) (h : gsem (gC E) cd hs (hmc y) (hms y) (gL E) (gXs E) bo Q X (pc, len, .return_, a, b, v) rest go ls st I J B c w)  : gG E y pc ls st I J B c w Q X := by
  replace h := gno_e h; obtain ⟨rfl, h⟩ := h
  obtain ⟨hl, h2⟩ := gband (gband (gband hck).2).2
  have hl := Nat.eq_of_beq_eq_true hl
  subst hl
  exact gp_vreturn (gdec2 hck) (of_decide_eq_true h2) h
theorem ggkd_e {k : Nat} {args : List gV} (hk : 0 < k) (h : gkd k args = true) : ∃ q as, args = .inr q :: as ∧ q.1 = k := by
  unfold gkd at h
  split at h
  · exact absurd hk (by omega)
  · split at h
    · exact ⟨_, _, rfl, Nat.eq_of_beq_eq_true h⟩
    · cases h
theorem grev {st : List gV} {n : Nat} {as : List gV} (h : (st.take n).reverse = as) : st = as.reverse ++ st.drop n := by
  rw [← h, List.reverse_reverse, List.take_append_drop]
/-- what stands behind a call, as the small machine says it -/
abbrev gQ2 (tag : Nat) (rest : List gE) (go : List gE → gM) (ls : List (Nat × gV)) (r : List gV) (c w : Nat) : gQt := fun v I' J' B' => match tag with
  | 0 => go rest ls r I' J' B' c w
  | 1 => gvi v fun x => go rest ls (.inl (.int x) :: r) I' J' B' c w
  | 2 => gvl v fun x => go rest ls (.inl (.long x) :: r) I' J' B' c w
  | 3 => gvd v fun x => go rest ls (.inl (.double x) :: r) I' J' B' c w
  | _ => gvn v (go rest ls (.inl .null :: r) I' J' B' c w) fun r2 => go rest ls (.inr r2 :: r) I' J' B' c w
theorem gQ2_e {tag : Nat} {r : List gV} {u : gV} {I2 : gI} {J2 : gJ} {B2 : gB} (ht : (Nat.beq tag 0 == (hr a).isNone) = true) (h : gQ2 tag rest go ls r c w u I2 J2 B2) : go rest ls (gpush a u r) I2 J2 B2 c w := by
  have ht := eq_of_beq ht
  unfold gpush
  cases hn : hr a with
  | none =>
    rw [hn] at ht
    have h0 := Nat.eq_of_beq_eq_true (ht.trans rfl)
    subst h0
    exact h
  | some ty =>
    rw [hn] at ht
    have h0 : tag ≠ 0 := by
      intro e
      subst e
      cases ht
    match tag, h0 with
    | 0, h0 => exact absurd rfl h0
    | 1, _ =>
      replace h := gvi_e h; obtain ⟨x, rfl, h⟩ := h
      exact h
    | 2, _ =>
      replace h := gvl_e h; obtain ⟨x, rfl, h⟩ := h
      exact h
    | 3, _ =>
      replace h := gvd_e h; obtain ⟨x, rfl, h⟩ := h
      exact h
    | n + 4, _ =>
      replace h := gvn_e h; rcases h with ⟨rfl, h⟩ | ⟨x, rfl, h⟩
      · exact h
      · exact h
abbrev gX2 (cd : List gE) (hs : gH) (X : gXt) (pc : Nat) (go : List gE → gM) (ls : List (Nat × gV)) (c w : Nat) : gXt := match hs with
  | [] => X
  | _ => fun k I' J' B' => gx3 k
    (match ghf hs pc 0 with
      | some h => ghg cd h (fun r ls' => go r ls' [] I' J' B' c w) ls
      | none => X 0 I' J' B')
    (match ghf hs pc 1 with
      | some h => ghg cd h (fun r ls' => go r ls' [] I' J' B' c w) ls
      | none => X 1 I' J' B')
    (match ghf hs pc 2 with
      | some h => ghg cd h (fun r ls' => go r ls' [] I' J' B' c w) ls
      | none => X 2 I' J' B')
theorem gX2_e {k : Nat} (hgo : gGo E y cd Q X go) (hcd : gckL y cd = true) (hcl2 : (hy y).cls = gcls (hcl y)) (hH : gckH y cd hs = true) (hk : k < 3) (h : gX2 cd hs X pc go ls c w k I J B) : gGx E y pc ls k I J B c w Q X := by
  cases hs with
  | nil => exact gx_out (List.isEmpty_iff.mp hH) hk h
  | cons z zs =>
    have hne : z :: zs ≠ [] := by simp
    have key : ∀ j, j < 3 → (match ghf (z :: zs) pc j with
      | some h => ghg cd h (fun r ls' => go r ls' [] I J B c w) ls
      | none => X j I J B) → gGx E y pc ls j I J B c w Q X := by
      intro j hj hm
      cases hf : ghf (z :: zs) pc j with
      | none =>
        rw [hf] at hm
        exact gh_no hcl2 hne hH hj hf hm
      | some t =>
        rw [hf] at hm
        exact gh_go hgo hcd hcl2 hne hH hj hf hm
    rcases (show k = 0 ∨ k = 1 ∨ k = 2 by omega) with rfl | rfl | rfl
    · exact key 0 (by decide) h
    · exact key 1 (by decide) h
    · exact key 2 (by decide) h
theorem gcal_e {e : gE} (hc : c ≤ hmc y) (hw : w ≤ hms y) (hg : gcalc y e.2.2.2.1 e.2.2.2.2.2 = true) (h : gcal (gC E) cd hs (hmc y) (hms y) X e rest go ls st I J B c w) : ∃ tag, (gsum (st.drop (e.2.2.2.2.1 % 16)) ≤ 8 ∧ gkd (e.2.2.2.2.1 / 16) (st.take (e.2.2.2.2.1 % 16)).reverse = true ∧ (st.take (e.2.2.2.2.1 % 16)).length = e.2.2.2.2.1 % 16) ∧ (Nat.beq tag 0 == (hr e.2.2.2.1).isNone) = true ∧ gRm y e.2.2.2.1 ∧
    (c + hmc e.2.2.2.1 ≤ hmc y ∧ w + hms e.2.2.2.1 ≤ hms y) ∧ gC E e.2.2.2.1 (st.take (e.2.2.2.2.1 % 16)).reverse I J B (gQ2 tag rest go ls (st.drop (e.2.2.2.2.1 % 16)) (c + hmc e.2.2.2.1) (w + hms e.2.2.2.1)) (gX2 cd hs X e.1 go ls (c + hmc e.2.2.2.1) (w + hms e.2.2.2.1)) := by
  unfold gcal at h
  split at h
  · rename_i tag m1 m2 h1 h2
    rw [h2] at hg
    obtain ⟨g1, hg⟩ := gband hg
    obtain ⟨g2, hg⟩ := gband hg
    obtain ⟨g3, hg⟩ := gband hg
    obtain ⟨g4, hg⟩ := gband hg
    obtain ⟨g5, g6⟩ := gband hg
    obtain ⟨k1, k2⟩ := gband h1
    obtain ⟨k2, k3⟩ := gband k2
    have g1 := Nat.eq_of_beq_eq_true g1
    have g2 := Nat.eq_of_beq_eq_true g2
    subst g1
    subst g2
    refine ⟨tag, ⟨Nat.le_of_ble_eq_true k1, k2, Nat.eq_of_beq_eq_true k3⟩, g4, ⟨Nat.le_of_ble_eq_true g5, Nat.le_of_ble_eq_true g6⟩, ?_⟩
    split at h
    · rename_i h0
      rcases Bool.or_eq_true_iff.mp g3 with g7 | g7
      · have := Nat.le_of_ble_eq_true g7
        omega
      · have := Nat.eq_of_beq_eq_true g7
        exact ⟨⟨by omega, by omega⟩, h⟩
    · exact h
  · exact absurd h id
theorem glen {e : Nat} {as : List gV} {q : gV} (h : (st.take e).reverse = q :: as) (hl : (st.take e).length = e) {n : Nat} (hn : e = n + 1) : as.length = n := by
  have h1 := congrArg List.length h
  rw [List.length_reverse, hl, hn, List.length_cons] at h1
  omega

theorem gs_invokevirtual {n : Nat} (hgo : gGo E y cd Q X go) (hsuf : ∃ pre, cd = pre ++ (pc, len, .invokevirtual n, a, b, v) :: rest) (hck : gck1 y (pc, len, .invokevirtual n, a, b, v) rest = true) (h : gsem (gC E) cd hs (hmc y) (hms y) (gL E) (gXs E) bo Q X (pc, len, .invokevirtual n, a, b, v) rest go ls st I J B c w) (hcd : gckL y cd = true) (hcl2 : (hy y).cls = gcls (hcl y)) (hH : gckH y cd hs = true) : gG E y pc ls st I J B c w Q X := by
  obtain ⟨hl, h2⟩ := gband (gband (gband hck).2).2
  have hl := Nat.eq_of_beq_eq_true hl
  subst hl
  refine gG_in fun hc hw => ?_
  obtain ⟨ha, h2⟩ := gband h2
  obtain ⟨k1, h2⟩ := gband h2
  obtain ⟨k2, h2⟩ := gband h2
  obtain ⟨k3, h2⟩ := gband h2
  obtain ⟨k4, h2⟩ := gband h2
  obtain ⟨k5, h2⟩ := gband h2
  obtain ⟨k6, k8⟩ := gband h2
  obtain ⟨k6, k7⟩ := gband k6
  obtain ⟨tag, ⟨s1, s2, s3⟩, s4, s5, ⟨s6, s7⟩, s8⟩ := gcal_e hc hw k8 h
  simp only at s1 s2 s3 s4 s5 s6 s7 s8
  obtain ⟨q, as, hq, hqk⟩ := ggkd_e (Nat.le_of_ble_eq_true k6) s2
  have ha : a < 314 := Nat.le_of_ble_eq_true ha
  have hst := grev hq
  have hll := glen hq s3 (Nat.eq_of_beq_eq_true k5)
  have hsel : Cond.selects (hy a).cls (hy a) (hy a) ∈ gBig := by
    rcases Bool.or_eq_true_iff.mp k4 with k | k
    · exact gYp_ok a (List.contains_iff_mem.mp k)
    · exact gYq_ok a (List.contains_iff_mem.mp k)
  have hcv : gCV (hy y).cls n a (hnp a) := ⟨gCe_ok ha, gYc_t a (List.contains_iff_mem.mp k1), gYc_ok a (List.contains_iff_mem.mp k1), by rw [hcl2]; exact gML_ok (hcl y, n, a) (List.contains_iff_mem.mp k2), gYi_ok a (List.contains_iff_mem.mp k3), hsel, gin_y ha⟩
  rw [hq] at s8
  rw [hst, List.reverse_cons, List.append_assoc, List.singleton_append]
  have kk := fun u I2 J2 B2 (hu : gQ2 tag rest go ls (st.drop (b % 16)) (c + hmc a) (w + hms a) u I2 J2 B2) => hgo.nx hsuf hck (gQ2_e s4 hu)
  have kx := fun k I2 J2 B2 (hk : k < 3) (hu : gX2 cd hs X pc go ls (c + hmc a) (w + hms a) k I2 J2 B2) => gX2_e hgo hcd hcl2 hH hk hu
  unfold gclc at k7
  cases ho : gobj (b / 16) with
  | none =>
    rw [ho] at k7
    obtain ⟨k8, k9⟩ := gband k7
    exact gp_callT (gdec2 hck) hcv s5 hll (hqk.trans (Nat.eq_of_beq_eq_true k8)) (by rw [hcl_ok ha, Nat.eq_of_beq_eq_true k9]; rfl) s1 s6 s7 s8 kk kx
  | some z =>
    obtain ⟨ci, fl⟩ := z
    rw [ho] at k7
    simp only at k7
    cases hz : vwCl[ci]? with
    | none => rw [hz] at k7; cases k7
    | some z =>
      rw [hz] at k7
      exact gp_callV (gdec2 hck) hcv s5 hll (by rw [hqk]; exact ho) hz (by rw [hcl_ok ha]; exact of_decide_eq_true k7) s1 s6 s7 s8 kk kx
theorem gs_invokestatic {n : Nat} (hgo : gGo E y cd Q X go) (hsuf : ∃ pre, cd = pre ++ (pc, len, .invokestatic n, a, b, v) :: rest) (hck : gck1 y (pc, len, .invokestatic n, a, b, v) rest = true) (h : gsem (gC E) cd hs (hmc y) (hms y) (gL E) (gXs E) bo Q X (pc, len, .invokestatic n, a, b, v) rest go ls st I J B c w) (hcd : gckL y cd = true) (hcl2 : (hy y).cls = gcls (hcl y)) (hH : gckH y cd hs = true) : gG E y pc ls st I J B c w Q X := by
  obtain ⟨hl, h2⟩ := gband (gband (gband hck).2).2
  have hl := Nat.eq_of_beq_eq_true hl
  subst hl
  refine gG_in fun hc hw => ?_
  by_cases hb9 : b = 9
  · subst hb9
    obtain ⟨h2, h3⟩ := gband h2
    have h2 := of_decide_eq_true h2
    obtain ⟨h3, h4⟩ := gband h3
    obtain ⟨rfl, h6⟩ := h2
    replace h := gpi_e h; obtain ⟨k0, r, rfl, h⟩ := h
    replace h := gpi_e h; obtain ⟨dp, r, rfl, h⟩ := h
    replace h := gpr_e h; obtain ⟨d, r, rfl, h⟩ := h
    replace h := gpi_e h; obtain ⟨sp, r, rfl, h⟩ := h
    replace h := gpr_e h; obtain ⟨s0, r, rfl, h⟩ := h
    split at h
    · rename_i hsm
      have hcc : (hy y).cls = "ToeplitzLab$State" := by rw [hcl2, h6]; rfl
      exact gp_copy (gdec2 hck) ⟨by rw [hcc]; exact gw_cpl, gw_cpn, gw_cps, gIn_ok "java/lang/System" (by decide +kernel)⟩ (Nat.le_of_ble_eq_true h3) (Nat.le_of_ble_eq_true h4) (Nat.le_of_ble_eq_true hsm) (gcpy_m (fun x z h => hgo.nx hsuf hck h) h)
    · exact absurd h id
  have h2 := (congrArg (fun z : Bool => z = true) (if_neg hb9)).mp h2
  have h : gcal (gC E) cd hs (hmc y) (hms y) X (pc, 3, .invokestatic n, a, b, v) rest go ls st I J B c w := by
    unfold gsem at h
    simp only at h
    exact h
  obtain ⟨h2, k9⟩ := gband h2
  obtain ⟨ha, h2⟩ := gband h2
  obtain ⟨k1, h2⟩ := gband h2
  obtain ⟨k5, h2⟩ := gband h2
  obtain ⟨k6, k8⟩ := gband h2
  obtain ⟨tag, ⟨s1, s2, s3⟩, s4, s5, ⟨s6, s7⟩, s8⟩ := gcal_e hc hw k8 h
  simp only at s1 s2 s3 s4 s5 s6 s7 s8
  have ha : a < 314 := Nat.le_of_ble_eq_true ha
  have hll : (st.take (b % 16)).reverse.length = hnp a := by
    rw [List.length_reverse, s3]
    exact Nat.eq_of_beq_eq_true k5
  have hst := grev (st := st) (n := b % 16) rfl
  have kk := fun u I2 J2 B2 (hu : gQ2 tag rest go ls (st.drop (b % 16)) (c + hmc a) (w + hms a) u I2 J2 B2) => hgo.nx hsuf hck (gQ2_e s4 hu)
  have kx := fun k I2 J2 B2 (hk : k < 3) (hu : gX2 cd hs X pc go ls (c + hmc a) (w + hms a) k I2 J2 B2) => gX2_e hgo hcd hcl2 hH hk hu
  have hs1 := gYs_ok a (List.contains_iff_mem.mp k1)
  generalize hgen : st.drop (b % 16) = r at *
  generalize hgen2 : (st.take (b % 16)).reverse = as at *
  rw [hst]
  rcases Bool.or_eq_true_iff.mp k9 with k | k
  · obtain ⟨j1, j2⟩ := gband k
    rcases Bool.or_eq_true_iff.mp j2 with j | j
    · exact gp_callS (gdec2 hck) ⟨gCe_ok ha, gYc_t a (List.contains_iff_mem.mp j1), gYc_ok a (List.contains_iff_mem.mp j1), by rw [hcl2]; exact gML_ok (hcl y, n, a) (List.contains_iff_mem.mp j), hs1, gin_y ha⟩ s5 hll s1 s6 s7 s8 kk kx
    · exact gp_callSN (gdec2 hck) ⟨gCe_ok ha, gYc_t a (List.contains_iff_mem.mp j1), gYc_ok a (List.contains_iff_mem.mp j1), by rw [hcl2]; exact gNlink_ok (hcl y, n, a) (List.contains_iff_mem.mp j), hs1, gin_y ha⟩ s5 hll s1 s6 s7 s8 kk kx
  · obtain ⟨j1, j2⟩ := gband k
    have hx := gYx_t a (List.contains_iff_mem.mp j1)
    have hcw2 : hcw a ∈ gBig := by
      have h3 := gYx_ok a (List.contains_iff_mem.mp j1)
      unfold hcw
      split
      · rename_i h4
        exact absurd h4 hx
      · exact h3
    exact gp_callSX (gdec2 hck) ⟨gCe_ok ha, hx, hcw2, by rw [hcl2]; exact gML_ok (hcl y, n, a) (List.contains_iff_mem.mp j2), hs1, gin_y ha⟩ s5 hll s1 s6 s7 s8 kk kx
end GZ
end
section
/-! ===== all instructions together, stretches, contracts ===== -/
section GW
variable {E : gEn} {y : Nat} {cd : List gE} {hs : gH} {bo : Bool} {Q : gQt} {X : gXt} {rest : List gE} {go : List gE → gM} {ls : List (Nat × gV)} {st r : List gV} {I : gI} {J : gJ} {B : gB} {c w : Nat} {pc len a b : Nat} {v : gV}
theorem gp_switch {d lo hi : Int} {offs : Array Int} {x : Int32} {t : Nat} (hd : decode (hb y) pc = .ok (.tableswitch d lo hi offs, len)) (hx : ((x.toInt < lo ∨ hi < x.toInt) ∧ (pc : Int) + d = (t : Int)) ∨ (¬ x.toInt < lo ∧ ¬ hi < x.toInt ∧ ∃ off, offs[(x.toInt - lo).toNat]? = some off ∧ (pc : Int) + off = (t : Int)))
    (k : gG E y t ls r I J B c w Q X) : gG E y pc ls (.inl (.int x) :: r) I J B c w Q X := by
  intro hc hw p e s m args below meth cc ad0 Bs hC hT H locs LS ad hS
  have kk := k hc hw p e s m args below meth cc ad0 Bs hC hT H locs LS ad (hS.tk (gvs_d hS.vs))
  rcases hx with ⟨h1, h2⟩ | ⟨h1, h2, off, h3, h4⟩
  · exact lv_tableOut hC.1 hC.2.1 hd h1 h2 kk
  · exact lv_tableIn hC.1 hC.2.1 hd h1 h2 h3 h4 kk
theorem gs_tableswitch {d lo hi : Int} {offs : Array Int} (hgo : gGo E y cd Q X go) (hsuf : ∃ pre, cd = pre ++ (pc, len, .tableswitch d lo hi offs, a, b, v) :: rest) (hck : gck1 y (pc, len, .tableswitch d lo hi offs, a, b, v) rest = true) (h : gsem (gC E) cd hs (hmc y) (hms y) (gL E) (gXs E) bo Q X (pc, len, .tableswitch d lo hi offs, a, b, v) rest go ls st I J B c w) : gG E y pc ls st I J B c w Q X := by
  replace h := gpi_e h; obtain ⟨x, r, rfl, h⟩ := h
  obtain ⟨h1, h2⟩ := h
  obtain ⟨k1, k2⟩ := gband (gband (gband hck).2).2
  obtain ⟨k2, k3⟩ := gband k2
  have k1 := of_decide_eq_true k1
  have k3 := of_decide_eq_true k3
  have k2 := List.all_eq_true.mp k2
  simp only at k1 k2 k3 h1 h2
  rw [List.length_map, Array.length_toList] at h2
  by_cases hl : x.toInt < lo
  · exact gp_switch (gdec2 hck) (Or.inl ⟨Or.inl hl, (by omega : (pc : Int) + d = (((pc : Int) + d).toNat : Int))⟩) (hgo.jm (h2 (Or.inl hl)))
  · by_cases hh : hi < x.toInt
    · exact gp_switch (gdec2 hck) (Or.inl ⟨Or.inr hh, (by omega : (pc : Int) + d = (((pc : Int) + d).toNat : Int))⟩) (hgo.jm (h2 (Or.inr (by omega))))
    · have hi2 : (x.toInt - lo).toNat < offs.size := by omega
      have ho : offs[(x.toInt - lo).toNat]? = some offs[(x.toInt - lo).toNat] := Array.getElem?_eq_getElem hi2
      have hm : offs[(x.toInt - lo).toNat] ∈ offs.toList := Array.mem_toList_iff.mpr (Array.getElem_mem hi2)
      have h0 := of_decide_eq_true (k2 _ hm)
      refine gp_switch (gdec2 hck) (Or.inr ⟨hl, hh, _, ho, (by omega : (pc : Int) + offs[(x.toInt - lo).toNat] = (((pc : Int) + offs[(x.toInt - lo).toNat]).toNat : Int))⟩) (hgo.jm (h1 (x.toInt - lo).toNat _ ?_ (by omega)))
      rw [List.getElem?_map, Array.getElem?_toList, ho]
      rfl
theorem gnx {e e2 : gE} {r2 : List gE} (h : gck1 y e (e2 :: r2) = true) : e2.1 = e.1 + e.2.1 := Nat.eq_of_beq_eq_true (gband (gband h).2).1
theorem gs_new {ik : Nat} (hN : gNewOK E) (hgo : gGo E y cd Q X go) (hsuf : ∃ pre, cd = pre ++ (pc, len, .new ik, a, b, v) :: rest) (hck : gck1 y (pc, len, .new ik, a, b, v) rest = true) (h : gsem (gC E) cd hs (hmc y) (hms y) (gL E) (gXs E) bo Q X (pc, len, .new ik, a, b, v) rest go ls st I J B c w) (hcd : gckL y cd = true) (hcl2 : (hy y).cls = gcls (hcl y)) : gG E y pc ls st I J B c w Q X := by
  obtain ⟨pre, hp⟩ := hsuf
  have hall : ∀ {pre2 : List gE} {e2 : gE} {r2 : List gE}, cd = pre2 ++ e2 :: r2 → gck1 y e2 r2 = true := fun h0 => gckL_at (by rw [← h0]; exact hcd)
  by_cases ha : a = 1
  · subst ha
    replace h := gno_e h; obtain ⟨rfl, ⟨h1, h2⟩, h3⟩ := h
    have hk := (gband (gband hck).2).2
    obtain ⟨k1, hk⟩ := gband hk
    obtain ⟨k2, hk⟩ := gband hk
    obtain ⟨k3, hk⟩ := gband hk
    obtain ⟨k4, hk⟩ := gband hk
    have k1 := Nat.eq_of_beq_eq_true k1
    have k2 := List.isEmpty_iff.mp k2
    have k3 := Nat.le_of_ble_eq_true k3
    have k4 := Nat.le_of_ble_eq_true k4
    have hcc : (hy y).cls = RX7 := by rw [hcl2, k1]; rfl
    split at hk
    · rename_i p3 l3 z3 p4 l4 is z4 p6 l6 ic z6 p9 l9 z9 r9
      obtain ⟨m1, hk⟩ := gband hk
      obtain ⟨m2, hk⟩ := gband hk
      obtain ⟨m3, hk⟩ := gband hk
      obtain ⟨m4, hk⟩ := gband hk
      obtain ⟨m5, hk⟩ := gband hk
      obtain ⟨m6, hk⟩ := gband hk
      obtain ⟨m7, hk⟩ := gband hk
      obtain ⟨m8, m9⟩ := gband hk
      have m1 := Nat.eq_of_beq_eq_true m1
      have m2 := Nat.eq_of_beq_eq_true m2
      have m3 := Nat.eq_of_beq_eq_true m3
      have m4 := Nat.eq_of_beq_eq_true m4
      have m5 := Nat.eq_of_beq_eq_true m5
      have m6 := Nat.eq_of_beq_eq_true m6
      have m7 := Nat.eq_of_beq_eq_true m7
      have m8 := Nat.eq_of_beq_eq_true m8
      simp only at m1 m3 m5 m7
      subst m1 m2 m3 m4 m5 m6 m7 m8
      have hl : pc + 3 = pc + len := gnx hck
      have hl : len = 3 := by omega
      subst hl
      have hp1 := hp.trans (List.append_cons _ _ _)
      have hp2 := hp1.trans (List.append_cons _ _ _)
      have hp3 := hp2.trans (List.append_cons _ _ _)
      have d3 := gdec2 (hall hp1)
      have d4 := gdec2 (hall hp2)
      have hp4 := hp3.trans (List.append_cons _ _ _)
      have d6 := gdec2 (hall hp3)
      have d9 := gdec2 (hall hp4)
      exact gp_throw (gdec2 hck) d3 d4 d6 d9 (by rw [hcc]; exact gthrT_ok _ (List.contains_iff_mem.mp m9)) k2 k3 k4 h1 h2 h3
    · rename_i p3 l3 z3 p4 l4 is z4 p6 l6 ic z6 p9 l9 z9 r9
      obtain ⟨m1, hk⟩ := gband hk
      obtain ⟨m2, hk⟩ := gband hk
      obtain ⟨m3, hk⟩ := gband hk
      obtain ⟨m4, hk⟩ := gband hk
      obtain ⟨m5, hk⟩ := gband hk
      obtain ⟨m6, hk⟩ := gband hk
      obtain ⟨m7, hk⟩ := gband hk
      obtain ⟨m8, m9⟩ := gband hk
      have m1 := Nat.eq_of_beq_eq_true m1
      have m2 := Nat.eq_of_beq_eq_true m2
      have m3 := Nat.eq_of_beq_eq_true m3
      have m4 := Nat.eq_of_beq_eq_true m4
      have m5 := Nat.eq_of_beq_eq_true m5
      have m6 := Nat.eq_of_beq_eq_true m6
      have m7 := Nat.eq_of_beq_eq_true m7
      have m8 := Nat.eq_of_beq_eq_true m8
      simp only at m1 m3 m5 m7
      subst m1 m2 m3 m4 m5 m6 m7 m8
      have hl : pc + 3 = pc + len := gnx hck
      have hl : len = 3 := by omega
      subst hl
      have hp1 := hp.trans (List.append_cons _ _ _)
      have hp2 := hp1.trans (List.append_cons _ _ _)
      have hp3 := hp2.trans (List.append_cons _ _ _)
      have d3 := gdec2 (hall hp1)
      have d4 := gdec2 (hall hp2)
      have hp4 := hp3.trans (List.append_cons _ _ _)
      have d6 := gdec2 (hall hp3)
      have d9 := gdec2 (hall hp4)
      exact gp_throwW (gdec2 hck) d3 d4 d6 d9 (by rw [hcc]; exact gthrT_ok _ (List.contains_iff_mem.mp m9)) k2 k3 k4 h1 h2 h3
    · exact absurd hk (by decide)
  · have hk := (gband (gband hck).2).2
    have hsem : Nat.ble (gsum st) 6 = true ∧ ∃ m, (3 ≤ m ∧ m ≤ 12 ∧ B m = false) ∧ (c + 7 ≤ hmc y ∧ w + 142 ≤ hms y) ∧ go (rest.drop 2) ls (.inr (6, m, 0) :: st) (gnwI I m) (gnwJ J m) (gUB B m) (c + 7) (w + 142) := by
      unfold gsem at h
      simp only at h
      exact h
    unfold gck2 at hk
    simp only at hk
    clear h
    obtain ⟨g1, m, g2, g3, g4⟩ := hsem
    obtain ⟨k1, hk⟩ := gband hk
    obtain ⟨k2, hk⟩ := gband hk
    split at hk
    · rename_i p3 l3 z3 p4 l4 ic z4 rest2 _ _
      obtain ⟨m1, hk⟩ := gband hk
      obtain ⟨m2, hk⟩ := gband hk
      obtain ⟨m3, hk⟩ := gband hk
      obtain ⟨m4, hk⟩ := gband hk
      obtain ⟨m5, m6⟩ := gband hk
      have m1 := Nat.eq_of_beq_eq_true m1
      have m2 := Nat.eq_of_beq_eq_true m2
      have m3 := Nat.eq_of_beq_eq_true m3
      have m4 := Nat.eq_of_beq_eq_true m4
      subst m1 m2 m3 m4
      have hl : pc + 3 = pc + len := gnx hck
      have hl : len = 3 := by omega
      subst hl
      have hp1 := hp.trans (List.append_cons _ _ _)
      have hp2 := hp1.trans (List.append_cons _ _ _)
      have hp3 := hp2.trans (List.append_cons _ _ _)
      have d3 := gdec2 (hall hp1)
      have d4 := gdec2 (hall hp2)
      obtain ⟨e7, r7, he, hG⟩ := hgo rest2 ls _ _ _ _ _ _ ⟨_, hp3⟩ g4
      subst he
      have m6 := Nat.eq_of_beq_eq_true m6
      rw [m6] at hG
      refine hN y pc ls st I J B c w Q X ik ic m ?_ hcl2 (gdec2 hck) d3 d4 (Nat.le_of_ble_eq_true k1) (Nat.le_of_ble_eq_true k2) (Nat.le_of_ble_eq_true g1) g2 g3 hG
      rcases Bool.or_eq_true_iff.mp m5 with h | h
      · exact Or.inl (of_decide_eq_true h)
      · exact Or.inr (of_decide_eq_true h)
    · exact absurd hk (by decide)
theorem gsem_ok {e : gE} (hN : gNewOK E) (hgo : gGo E y cd Q X go) (hsuf : ∃ pre, cd = pre ++ e :: rest) (hcd : gckL y cd = true) (hcl2 : (hy y).cls = gcls (hcl y)) (hH : gckH y cd hs = true) (hbo : bo = true ↔ hr y = some .boolean) (h : gsem (gC E) cd hs (hmc y) (hms y) (gL E) (gXs E) bo Q X e rest go ls st I J B c w) : gG E y e.1 ls st I J B c w Q X := by
  have hck : gck1 y e rest = true := by
    obtain ⟨pre, hp⟩ := hsuf
    exact gckL_at (by rw [← hp]; exact hcd)
  obtain ⟨pc, len, ins, a, b, v⟩ := e
  cases ins
  case iadd => exact gs_iadd hgo hsuf hck h 
  case isub => exact gs_isub hgo hsuf hck h 
  case imul => exact gs_imul hgo hsuf hck h 
  case iand => exact gs_iand hgo hsuf hck h 
  case ior => exact gs_ior hgo hsuf hck h 
  case ixor => exact gs_ixor hgo hsuf hck h 
  case ishl => exact gs_ishl hgo hsuf hck h 
  case ishr => exact gs_ishr hgo hsuf hck h 
  case iushr => exact gs_iushr hgo hsuf hck h 
  case idiv => exact gs_idiv hgo hsuf hck h 
  case irem => exact gs_irem hgo hsuf hck h 
  case ladd => exact gs_ladd hgo hsuf hck h 
  case lsub => exact gs_lsub hgo hsuf hck h 
  case lmul => exact gs_lmul hgo hsuf hck h 
  case lcmp => exact gs_lcmp hgo hsuf hck h 
  case ldiv => exact gs_ldiv hgo hsuf hck h 
  case lrem => exact gs_lrem hgo hsuf hck h 
  case ineg => exact gs_ineg hgo hsuf hck h 
  case lneg => exact gs_lneg hgo hsuf hck h 
  case i2l => exact gs_i2l hgo hsuf hck h 
  case l2i => exact gs_l2i hgo hsuf hck h 
  case i2b => exact gs_i2b hgo hsuf hck h 
  case l2d => exact gs_l2d hgo hsuf hck h 
  case ddiv => exact gs_ddiv hgo hsuf hck h 
  case dcmp _ => exact gs_dcmp hgo hsuf hck h 
  case iconst _ => exact gs_iconst hgo hsuf hck h 
  case bipush _ => exact gs_bipush hgo hsuf hck h 
  case sipush _ => exact gs_sipush hgo hsuf hck h 
  case lconst _ => exact gs_lconst hgo hsuf hck h 
  case dconst _ => exact gs_dconst hgo hsuf hck h 
  case ldc _ => exact gs_ldc hgo hsuf hck h 
  case ldc_w _ => exact gs_ldcw hgo hsuf hck h 
  case ldc2_w _ => exact gs_ldc2 hgo hsuf hck h 
  case aconst_null => exact gs_null hgo hsuf hck h 
  case getstatic _ => exact gs_getstatic hgo hsuf hck h hcl2
  case newarray _ => exact gs_newarray hgo hsuf hck h 
  case iload_n _ => exact gs_iload_n hgo hsuf hck h 
  case lload_n _ => exact gs_lload_n hgo hsuf hck h 
  case iload _ => exact gs_iload hgo hsuf hck h 
  case lload _ => exact gs_lload hgo hsuf hck h 
  case dload _ => exact gs_dload hgo hsuf hck h 
  case aload_n _ => exact gs_aload_n hgo hsuf hck h 
  case aload _ => exact gs_aload hgo hsuf hck h 
  case istore_n _ => exact gs_istore_n hgo hsuf hck h 
  case lstore_n _ => exact gs_lstore_n hgo hsuf hck h 
  case istore _ => exact gs_istore hgo hsuf hck h 
  case lstore _ => exact gs_lstore hgo hsuf hck h 
  case dstore _ => exact gs_dstore hgo hsuf hck h 
  case astore_n _ => exact gs_astore_n hgo hsuf hck h 
  case astore _ => exact gs_astore hgo hsuf hck h 
  case iinc _ _ => exact gs_iinc hgo hsuf hck h 
  case pop => exact gs_pop hgo hsuf hck h 
  case dup => exact gs_dup hgo hsuf hck h 
  case dup2 => exact gs_dup2 hgo hsuf hck h 
  case goto _ => exact gs_goto hgo hsuf hck h 
  case ifnull _ => exact gs_ifnull hgo hsuf hck h 
  case ifnonnull _ => exact gs_ifnonnull hgo hsuf hck h 
  case iaload => exact gs_iaload hgo hsuf hck h 
  case baload => exact gs_baload hgo hsuf hck h 
  case laload => exact gs_laload hgo hsuf hck h 
  case daload => exact gs_daload hgo hsuf hck h 
  case aaload => exact gs_aaload hgo hsuf hck h 
  case iastore => exact gs_iastore hgo hsuf hck h 
  case bastore => exact gs_bastore hgo hsuf hck h 
  case lastore => exact gs_lastore hgo hsuf hck h 
  case dastore => exact gs_dastore hgo hsuf hck h 
  case aastore => exact gs_aastore hgo hsuf hck h 
  case arraylength => exact gs_arraylength hgo hsuf hck h 
  case getfield _ => exact gs_getfield hgo hsuf hck h hcl2
  case putfield _ => exact gs_putfield hgo hsuf hck h hcl2
  case ireturn => exact gs_ireturn hgo hsuf hck h hbo
  case lreturn => exact gs_lreturn hgo hsuf hck h 
  case dreturn => exact gs_dreturn hgo hsuf hck h 
  case areturn => exact gs_areturn hgo hsuf hck h 
  case return_ => exact gs_return hgo hsuf hck h 
  case invokevirtual _ => exact gs_invokevirtual hgo hsuf hck h hcd hcl2 hH
  case invokestatic _ => exact gs_invokestatic hgo hsuf hck h hcd hcl2 hH
  case tableswitch _ _ _ _ => exact gs_tableswitch hgo hsuf hck h 
  case new n => exact gs_new hN hgo hsuf hck h hcd hcl2
  case ifCond cc off =>
    cases cc
    case eq => exact gs_if_eq hgo hsuf hck h
    case ne => exact gs_if_ne hgo hsuf hck h
    case lt => exact gs_if_lt hgo hsuf hck h
    case ge => exact gs_if_ge hgo hsuf hck h
    case gt => exact gs_if_gt hgo hsuf hck h
    case le => exact gs_if_le hgo hsuf hck h
  case if_icmp cc off =>
    cases cc
    case eq => exact gs_icmp_eq hgo hsuf hck h
    case ne => exact gs_icmp_ne hgo hsuf hck h
    case lt => exact gs_icmp_lt hgo hsuf hck h
    case ge => exact gs_icmp_ge hgo hsuf hck h
    case gt => exact gs_icmp_gt hgo hsuf hck h
    case le => exact gs_icmp_le hgo hsuf hck h
  all_goals exact absurd h id
theorem gG_run {ct : List (Nat × List Nat)} (hN : gNewOK E) (hcd : gckL y cd = true) (hcl2 : (hy y).cls = gcls (hcl y)) (hH : gckH y cd hs = true) (hbo : bo = true ↔ hr y = some .boolean) : ∀ (n : Nat) (cur : List gE) (ls : List (Nat × gV)) (st : List gV) (I : gI) (J : gJ) (B : gB) (c w : Nat), (∃ pre, cd = pre ++ cur) →
    gstp (gC E) cd hs (hmc y) (hms y) (gL E) (gXs E) bo Q X ct (fun pc ls st I J B c w => gG E y pc ls st I J B c w Q X) n cur ls st I J B c w → ∃ e r, cur = e :: r ∧ gG E y e.1 ls st I J B c w Q X
  | 0, _, _, _, _, _, _, _, _, _, h => absurd h id
  | _ + 1, [], _, _, _, _, _, _, _, _, h => absurd h id
  | n + 1, e :: rest, ls, st, I, J, B, c, w, hs2, h => by
    refine ⟨e, rest, rfl, gsem_ok hN ?_ hs2 hcd hcl2 hH hbo h⟩
    intro cur ls2 st2 I2 J2 B2 c2 w2 hs3 h2
    cases cur with
    | nil => exact absurd h2 id
    | cons e2 r2 =>
      cases hlk : ct.lookup e2.1 with
      | some live => exact ⟨e2, r2, rfl, gp_pick (live := live) (by simpa only [gcut, hlk] using h2)⟩
      | none => exact gG_run hN hcd hcl2 hH hbo n (e2 :: r2) ls2 st2 I2 J2 B2 c2 w2 hs3 (by simpa only [gcut, hlk] using h2)
/-- all that is checked of a method -/
def gFine (y : Nat) (cd : List gE) (hs : gH) (mc ms : Nat) (bo : Bool) : Prop := gckL y cd = true ∧ gckH y cd hs = true ∧ (hy y).cls = gcls (hcl y) ∧ (bo = true ↔ hr y = some .boolean) ∧ plainFor (hy y) = true ∧ hmc y = mc ∧ hms y = ms
theorem gr_s {mc ms n : Nat} {ct : List (Nat × List Nat)} (F : gFine y cd hs mc ms bo) (hN : gNewOK E)
    (h : gstp (gC E) cd hs mc ms (gL E) (gXs E) bo Q X ct (fun pc ls st I J B c w => gG E y pc ls st I J B c w Q X) n (gto cd pc) ls st I J B c w) : gG E y pc ls st I J B c w Q X := by
  obtain ⟨f1, f2, f3, f4, f5, rfl, rfl⟩ := F
  obtain ⟨e, r, he, hG⟩ := gG_run hN f1 f3 f2 f4 n _ ls st I J B c w gto_s h
  rw [← gto_h he]
  exact hG
/-- the places of what a method is called with -/
def gpos : Nat → List gV → List (Nat × gV)
  | _, [] => []
  | i, v :: vs => (i, v) :: gpos (i + gcat v) vs
theorem gpos_cv {ad : gR → Nat} : ∀ (vs : List gV) (i : Nat), (gpos i vs).map (gcp ad) = lv_args i (vs.map (gcv ad))
  | [], _ => rfl
  | v :: vs, i => by
    have h : gcat v = 1 ∨ gcat v = 2 := by
      cases v with
      | inl z => cases z <;> first | exact Or.inl rfl | exact Or.inr rfl
      | inr r => exact Or.inl rfl
    simp only [gpos, List.map_cons, lv_args]
    rw [gpos_cv vs, gcat_cv]
    rcases h with h | h
    · rw [h, if_neg (by decide)]
      rfl
    · rw [h, if_pos rfl]
      rfl
theorem gpos_mem : ∀ (vs : List gV) (i : Nat) (q : Nat × gV), q ∈ gpos i vs → q.2 ∈ vs
  | [], _, _, h => absurd h (by simp [gpos])
  | v :: vs, i, q, h => by
    rcases List.mem_cons.mp h with rfl | h
    · exact List.mem_cons_self
    · exact List.mem_cons_of_mem _ (gpos_mem vs _ q h)
theorem glg_len {ad : gR → Nat} : ∀ (vs : List gV), (lg_sl (vs.map (gcv ad))).length = gsum vs
  | [] => rfl
  | v :: vs => by
    have h : gcat v = 1 ∨ gcat v = 2 := by
      cases v with
      | inl z => cases z <;> first | exact Or.inl rfl | exact Or.inr rfl
      | inr r => exact Or.inl rfl
    have h2 : lg_sl ((v :: vs).map (gcv ad)) = (if (gcv ad v).category = 2 then [Slot.val (gcv ad v), Slot.second] else [Slot.val (gcv ad v)]) ++ lg_sl (vs.map (gcv ad)) := by
      simp [lg_sl]
    rw [h2, List.length_append, glg_len vs, gcat_cv]
    have h3 : gsum (v :: vs) = gcat v + gsum vs := by simp [gsum]
    rw [h3]
    rcases h with h | h
    · rw [h, if_neg (by decide)]
      rfl
    · rw [h, if_pos rfl]
      rfl
theorem gx_ofW {ws ws' : List Cond} {l : Launch} {yn : MethodName} {rm : Room} {Pc : Array Value → State → Prop} {Qc : Array Value → State → Outcome → State → Prop} {XC : String → State → State → Prop} {mc ms : Nat} {free : Addr → Prop} {cc : ByteArray} {maxL : Nat} {ret : Option FieldType} (hp : plainFor yn = true) (hw : ws = Cond.code yn cc maxL ret :: ws')
    (body : ∀ p e s m args below meth c s₁, BodyLoose p l yn (headSpec ws rm) cc maxL ret e s m args below meth c s₁ → c.maxLocals = maxL → (∀ x ∈ c.exceptionTable.toList, False) → Pc args s →
      W p l e (headSpec ws rm).room s m args below meth c s.heap [] 0 0 (vx_MQ below Qc XC args s mc ms free) (entryFrame m args maxL)) : vx_Met l yn ws rm Pc Qc XC mc ms free := by
  refine MetFree.of_bodySF (code := cc) (maxLocals := maxL) (ret := ret) hp ?_ ?_
  · intro args s m h hn
    obtain ⟨meth, c, h1, h2, h3, h4, h5, h6, -, -⟩ := Cond.code_spec hn (atoms_spec (ws := ws) h _ (by rw [hw]; exact List.mem_cons_self))
    exact ⟨meth, c, h1, h2, h3, h4, h5, h6⟩
  · intro p e s m args below meth c s₁ B hml hP _
    have hh0 : s₁.heap = s.heap := by rw [B.state]; rfl
    have ht : ∀ x ∈ c.exceptionTable.toList, False := by
      obtain ⟨meth9, c9, h1, h2, -, -, -, -, h7, -⟩ := Cond.code_spec B.named (atoms_spec (ws := ws) B.pre _ (by rw [hw]; exact List.mem_cons_self))
      cases Option.some.inj (h1.symm.trans B.method)
      cases Option.some.inj (h2.symm.trans (Stand.of_body B).code)
      intro x hx
      rw [Array.isEmpty_iff.mp h7] at hx
      cases hx
    obtain ⟨t, a1, o, b1, b2, b3⟩ := body p e s m args below meth c s₁ B hml ht hP s₁ hh0 (Stand.of_body B)
    exact ⟨t, o, a1, b1, b2, b3⟩
theorem gx_ofWH {ws ws' : List Cond} {l : Launch} {yn : MethodName} {rm : Room} {Pc : Array Value → State → Prop} {Qc : Array Value → State → Outcome → State → Prop} {XC : String → State → State → Prop} {mc ms : Nat} {free : Addr → Prop} {cc : ByteArray} {maxL : Nat} {ret : Option FieldType} {hh : List (Nat × Nat × Nat × Nat)} (hp : plainFor yn = true) (hw : ws = Cond.codeWith yn cc maxL ret hh :: ws')
    (body : ∀ p e s m args below meth c s₁, BodyLoose p l yn (headSpec ws rm) cc maxL ret e s m args below meth c s₁ → c.maxLocals = maxL → Pc args s →
      W p l e (headSpec ws rm).room s m args below meth c s.heap [] 0 0 (vx_MQ below Qc XC args s mc ms free) (entryFrame m args maxL)) : vx_Met l yn ws rm Pc Qc XC mc ms free := by
  refine MetFree.of_bodySF (code := cc) (maxLocals := maxL) (ret := ret) hp ?_ ?_
  · intro args s m h hn
    obtain ⟨m9, meth, c, hn9, h1, h2, h3, h4, -, h5, h6, -⟩ := Cond.codeWith_spec (atoms_spec (ws := ws) h _ (by rw [hw]; exact List.mem_cons_self))
    cases hn.symm.trans hn9
    exact ⟨meth, c, h1, h2, h3, h4, h5, h6⟩
  · intro p e s m args below meth c s₁ B hml hP _
    have hh0 : s₁.heap = s.heap := by rw [B.state]; rfl
    obtain ⟨t, a1, o, b1, b2, b3⟩ := body p e s m args below meth c s₁ B hml hP s₁ hh0 (Stand.of_body B)
    exact ⟨t, o, a1, b1, b2, b3⟩
theorem gC_of {args : List gV} (hp : plainFor (hy y) = true) (hlen : gsum args ≤ hml y) (h : gG E y 0 (gpos 0 args) [] I J B 0 0 Q X) : gC E y args I J B Q X := by
  intro hva ad
  have body : ∀ p e s m (aa : Array Value) below meth c s₁, BodyLoose p (gl E) (hy y) (headSpec (hws y) (hrm y)) (hb y) (hml y) (hr y) e s m aa below meth c s₁ → c.maxLocals = hml y → c.exceptionTable.toList = tableOf (hht y) → va_Pc (args.map (gcv ad)) (fun U => gEv E U U.heap ∧ gRep E ad I J B U.heap) aa s →
      W p (gl E) e (headSpec (hws y) (hrm y)).room s m aa below meth c s.heap [] 0 0 (vx_MQ below (gQc E y ad B Q) (gXc E ad B X) aa s (hmc y) (hms y) (gA E)) (entryFrame m aa (hml y)) := by
    intro p e s m aa below meth c s₁ Bo hml2 hT hv
    obtain ⟨rfl, hE, hR⟩ := hv
    have hts := atoms_spec (ws := hws y) Bo.pre
    have hown : s.vm.findClass (hy y).cls = some m.cls := findClass_of_methodNamed Bo.named
    have hl := lv_entry (args.map (gcv ad)) (n := hml y) (by rw [glg_len]; exact hlen)
    rw [lg_entry_eq]
    rw [← gpos_cv] at hl
    exact h (Nat.zero_le _) (Nat.zero_le _) p e s m _ below meth c ad B ⟨Bo.exec, Bo.bytes, Bo.returns, hml2, hown, fun w hw => hts _ (List.mem_cons_of_mem _ hw), Bo.notSynchronized, hE⟩ hT s.heap [] _ ad
      ⟨hR, va_S.rf, hl, fun _ _ => rfl, fun _ h => h, fun q hq => hva _ (gpos_mem _ _ _ hq), fun v hv => (by cases hv)⟩
  by_cases hh : hht y = []
  · refine gx_ofW hp (hws_code hh) ?_
    intro p e s m aa below meth c s₁ Bo hml2 hx hv
    refine body p e s m aa below meth c s₁ Bo hml2 ?_ hv
    rw [hh]
    cases hl : c.exceptionTable.toList with
    | nil => rfl
    | cons x t => exact absurd (hx x (by rw [hl]; exact List.mem_cons_self)) id
  · have hw : hws y = Cond.codeWith (hy y) (hb y) (hml y) (hr y) (hht y) :: gBig := by
      have h1 : hcw y = Cond.codeWith (hy y) (hb y) (hml y) (hr y) (hht y) := by
        unfold hcw
        cases e : hht y with
        | nil => exact absurd e hh
        | cons a t => rfl
      unfold hws
      rw [h1]
    refine gx_ofWH hp hw ?_
    intro p e s m aa below meth c s₁ Bo hml2 hv
    refine body p e s m aa below meth c s₁ Bo hml2 ?_ hv
    have hts := atoms_spec (ws := hws y) Bo.pre
    exact vx_table (x := hy y) Bo (hts _ (by rw [hw]; exact List.mem_cons_self))
theorem gr_e {args : List gV} {mc ms n : Nat} {ct : List (Nat × List Nat)} (F : gFine y cd hs mc ms bo) (hN : gNewOK E) (hlen : Nat.ble (gsum args) (hml y) = true)
    (h : gstp (gC E) cd hs mc ms (gL E) (gXs E) bo Q X ct (fun pc ls st I J B c w => gG E y pc ls st I J B c w Q X) n (gto cd 0) (gpos 0 args) [] I J B 0 0) : gC E y args I J B Q X := gC_of F.2.2.2.2.1 (Nat.le_of_ble_eq_true hlen) (gr_s F hN h)
end GW
end
section
/-! ===== constructors (by wip/whole/kinit.py) ===== -/
theorem va_D1 (ad : Nat) (c : va_E) {sz : Nat} : va_D (va_A [(ad, c)] sz) [(ad, c)] := by
  refine ⟨fun i j p q hi hj _ => ?_, fun k q hk => va_A.in hk⟩
  have h1 : i < 1 := (List.getElem?_eq_some_iff.mp hi).1
  have h2 : j < 1 := (List.getElem?_eq_some_iff.mp hj).1
  omega
theorem gwi_0 : (Cond.methodLink RX6 3 objectInit) ∈ gBig := gBig_of (gpc1 (List.mem_of_getElem? (i := 48) rfl)) rfl
theorem gwi_1 : (Cond.instanceMethod objectInit) ∈ gBig := gBig_of (gpc1 (List.mem_of_getElem? (i := 35) rfl)) rfl
theorem gwi_2 : (Cond.code objectInit ⟨#[0xb1]⟩ 1 none) ∈ gBig := gBig_of (gpc1 (List.mem_of_getElem? (i := 36) rfl)) rfl
theorem gwi_3 : (Cond.arrayClass .int) ∈ gBig := gBig_of (gpc1 (List.mem_of_getElem? (i := 109) rfl)) rfl
theorem gwi_4 : (Cond.fieldLink RX6 9 "ToeplitzLab$State" "diagonals" "[I") ∈ gBig := gBig_of (gpc1 (List.mem_of_getElem? (i := 59) rfl)) rfl
theorem gwi_5 : (Cond.fieldLink RX6 15 "ToeplitzLab$State" "sides" "[I") ∈ gBig := gBig_of (gpc1 (List.mem_of_getElem? (i := 60) rfl)) rfl
theorem gwi_6 : (Cond.fieldLink RX6 18 "ToeplitzLab$State" "probes" "[I") ∈ gBig := gBig_of (gpc1 (List.mem_of_getElem? (i := 64) rfl)) rfl
theorem gwi_7 : (Cond.fieldLink RX6 21 "ToeplitzLab$State" "power" "J") ∈ gBig := gBig_of (gpc1 (List.mem_of_getElem? (i := 71) rfl)) rfl
theorem gwi_8 : (Cond.arrayClass .long) ∈ gBig := gBig_of (gpc1 (List.mem_of_getElem? (i := 110) rfl)) rfl
theorem gwi_9 : (Cond.fieldLink RX6 25 "ToeplitzLab$State" "sums" "[J") ∈ gBig := gBig_of (gpc1 (List.mem_of_getElem? (i := 74) rfl)) rfl
theorem gwi_10 : (Cond.fieldLink RX6 29 "ToeplitzLab$State" "rests" "[I") ∈ gBig := gBig_of (gpc1 (List.mem_of_getElem? (i := 78) rfl)) rfl
theorem gwi_11 : (Cond.fieldLink RX6 32 "ToeplitzLab$State" "account" "[I") ∈ gBig := gBig_of (gpc1 (List.mem_of_getElem? (i := 83) rfl)) rfl
def gzw_6 (E : gEn) (h0 : Nat) (f : Nat → Nat) : va_W := [(h0, .inr (6, [.int 0, .int 0, .ref (f 0), .ref (f 1), .ref (f 2), .int 0, .long 1, .ref (f 3), .ref (f 4), .int 0, .ref (f 5)])), ((f 0), .inl (gca E 0, 13, .inl (fun _ => 0))), ((f 1), .inl (gca E 0, 7, .inl (fun _ => 0))), ((f 2), .inl (gca E 0, 7, .inl (fun _ => 0))), ((f 3), .inl (gca E 1, 7, .inr (.inl (fun _ => 0)))), ((f 4), .inl (gca E 0, 7, .inl (fun _ => 0))), ((f 5), .inl (gca E 0, 90, .inl (fun _ => 0)))]
set_option maxHeartbeats 4000000 in
set_option maxRecDepth 100000 in
theorem gi_6 (l : Launch) (E : gEn) (h0 sz : Nat) : Met l yX6_init (Cond.code yX6_init cX6_init 1 none :: gBig) ({ frames := 1, cells := 6, slots := 131, locals := 12 }) (va_Pc [.ref h0] (fun U => U.heap.size = sz ∧ va_P (gD E) vwCl [(h0, .inr (6, [.int 0, .int 0, .null, .null, .null, .int 0, .long 0, .null, .null, .int 0, .null]))] U.heap ∧ va_K (gD E) vwCl (gtys E) U)) (va_Qv (fun _ : Nat → Nat => True) (fun f t => va_P (gD E) vwCl (gzw_6 E h0 f) t.heap ∧ va_D (va_A [(h0, .inr (6, [.int 0, .int 0, .null, .null, .null, .int 0, .long 0, .null, .null, .int 0, .null]))] sz) (gzw_6 E h0 f)) (va_A [(h0, .inr (6, [.int 0, .int 0, .null, .null, .null, .int 0, .long 0, .null, .null, .int 0, .null]))] sz)) 6 131 (va_A [(h0, .inr (6, [.int 0, .int 0, .null, .null, .null, .int 0, .long 0, .null, .null, .int 0, .null]))] sz) := by
  refine Met.ofW (cc := cX6_init) (maxL := 1) (ret := none) (by decide) rfl ?_
  intro p e s m args below meth c s₁ B hml hv
  obtain ⟨rfl, hsz, hP, hK⟩ := hv
  have hx := B.exec
  have hb := B.bytes
  have hr := B.returns
  have hts := atoms_spec (ws := Cond.code yX6_init cX6_init 1 none :: gBig) B.pre
  have hts2 : ∀ w ∈ gBig, w.before #[.ref h0] s = true := fun w hw => hts w (List.mem_cons_of_mem _ hw)
  have hown : s.vm.findClass RX6 = some m.cls := findClass_of_methodNamed B.named
  have hlocks := B.notSynchronized
  have hin : meth.name = "<init>" := (name_of_methodNamed B.named B.method).1
  subst hsz
  have hD : va_D (va_A [(h0, .inr (6, [.int 0, .int 0, .null, .null, .null, .int 0, .long 0, .null, .null, .int 0, .null]))] s.heap.size) [(h0, .inr (6, [.int 0, .int 0, .null, .null, .null, .int 0, .long 0, .null, .null, .int 0, .null]))] := va_D1 _ _
  generalize hAe : va_A [(h0, .inr (6, [.int 0, .int 0, .null, .null, .null, .int 0, .long 0, .null, .null, .int 0, .null]))] s.heap.size = A at hD ⊢
  have hA : ∀ q : Nat, s.heap.size ≤ q → A q := fun q h => by rw [← hAe]; exact Or.inr h
  have hS : va_S A s.heap s.heap [] := va_S.rf
  have hl := lv_entry ([.ref h0]) (n := 1) (Nat.le_of_ble_eq_true rfl)
  rw [lg_entry_eq]
  generalize (lg_sl ([.ref h0]) ++ List.replicate (1 - (lg_sl ([.ref h0])).length) Slot.unset).toArray = ls at hl ⊢
  have hl : lv_has ls 1 [(0, .ref h0)] := hl
  refine lv_aload_n hx hb (show decode cX6_init 0 = .ok (.aload_n 0, 1) by decide +kernel) rfl (lv_at hl 0 rfl) ?_
  refine W.objInit hx hb hown (hts _ (List.mem_cons_of_mem _ gwi_0)) (hts _ (List.mem_cons_of_mem _ gwi_1)) (hts _ (List.mem_cons_of_mem _ gwi_2)) rfl (by rw [hml]; exact hl.1) rfl (show decode cX6_init 1 = .ok (.invokespecial 3, 3) by decide +kernel) (Nat.le_of_ble_eq_true rfl) (Nat.le_of_ble_eq_true rfl) ?_
  refine W.eq (g2 := F0 m 4 ls []) rfl ?_
  refine lv_aload_n hx hb (show decode cX6_init 4 = .ok (.aload_n 0, 1) by decide +kernel) rfl (lv_at hl 0 rfl) ?_
  refine lv_bipush hx hb (show decode cX6_init 5 = .ok (.bipush 13, 2) by decide +kernel) rfl ?_
  refine va_newa (atype := .int) (ty := .int) (a0 := (13, .inl (fun _ => 0))) (N' := 13) hx hb (hts _ (List.mem_cons_of_mem _ gwi_3)) rfl hK hP hD hS hA (fun _ => rfl) (by decide) rfl (Nat.le_of_ble_eq_true rfl) (Nat.le_of_ble_eq_true rfl) (Nat.le_of_ble_eq_true rfl) (show decode cX6_init 7 = .ok (.newarray .int, 2) by decide +kernel) (fun a1 cA H hK2 hP hD hS => ?_)
  have hcA : cA = gca E 0 := gca_eq hK2 0 rfl rfl
  subst hcA
  clear hK2
  have hP : va_P (gD E) vwCl [(h0, .inr (6, [.int 0, .int 0, .null, .null, .null, .int 0, .long 0, .null, .null, .int 0, .null])), (a1, .inl (gca E 0, 13, .inl (fun _ => 0)))] H := hP
  have hD : va_D A [(h0, .inr (6, [.int 0, .int 0, .null, .null, .null, .int 0, .long 0, .null, .null, .int 0, .null])), (a1, .inl (gca E 0, 13, .inl (fun _ => 0)))] := hD
  refine va_putF (D := gD E) (ci := 6) (v := .ref a1) (ty := .array .int) (C := RX6) (T := TX6) (N := 11) hx hb hts2 (fun w hw => gBig_of (guw_6 w hw) (gug_6 w hw)) tyX6 tyX6_ok (by decide +kernel) hown hK hP hD hS 0 rfl rfl 2 (by decide) (hts _ (List.mem_cons_of_mem _ gwi_4)) (fun _ h9 => h9) rfl hin rfl (by decide +kernel) rfl rfl (Nat.le_of_ble_eq_true rfl) (show decode cX6_init 9 = .ok (.putfield 9, 3) by decide +kernel) (fun H locs hP hD hS => ?_)
  have hP : va_P (gD E) vwCl [(h0, .inr (6, [.int 0, .int 0, .ref a1, .null, .null, .int 0, .long 0, .null, .null, .int 0, .null])), (a1, .inl (gca E 0, 13, .inl (fun _ => 0)))] H := hP
  have hD : va_D A [(h0, .inr (6, [.int 0, .int 0, .ref a1, .null, .null, .int 0, .long 0, .null, .null, .int 0, .null])), (a1, .inl (gca E 0, 13, .inl (fun _ => 0)))] := hD
  refine lv_aload_n hx hb (show decode cX6_init 12 = .ok (.aload_n 0, 1) by decide +kernel) rfl (lv_at hl 0 rfl) ?_
  refine lv_bipush hx hb (show decode cX6_init 13 = .ok (.bipush 7, 2) by decide +kernel) rfl ?_
  refine va_newa (atype := .int) (ty := .int) (a0 := (7, .inl (fun _ => 0))) (N' := 7) hx hb (hts _ (List.mem_cons_of_mem _ gwi_3)) rfl hK hP hD hS hA (fun _ => rfl) (by decide) rfl (Nat.le_of_ble_eq_true rfl) (Nat.le_of_ble_eq_true rfl) (Nat.le_of_ble_eq_true rfl) (show decode cX6_init 15 = .ok (.newarray .int, 2) by decide +kernel) (fun a2 cA H hK2 hP hD hS => ?_)
  have hcA : cA = gca E 0 := gca_eq hK2 0 rfl rfl
  subst hcA
  clear hK2
  have hP : va_P (gD E) vwCl [(h0, .inr (6, [.int 0, .int 0, .ref a1, .null, .null, .int 0, .long 0, .null, .null, .int 0, .null])), (a1, .inl (gca E 0, 13, .inl (fun _ => 0))), (a2, .inl (gca E 0, 7, .inl (fun _ => 0)))] H := hP
  have hD : va_D A [(h0, .inr (6, [.int 0, .int 0, .ref a1, .null, .null, .int 0, .long 0, .null, .null, .int 0, .null])), (a1, .inl (gca E 0, 13, .inl (fun _ => 0))), (a2, .inl (gca E 0, 7, .inl (fun _ => 0)))] := hD
  refine va_putF (D := gD E) (ci := 6) (v := .ref a2) (ty := .array .int) (C := RX6) (T := TX6) (N := 11) hx hb hts2 (fun w hw => gBig_of (guw_6 w hw) (gug_6 w hw)) tyX6 tyX6_ok (by decide +kernel) hown hK hP hD hS 0 rfl rfl 3 (by decide) (hts _ (List.mem_cons_of_mem _ gwi_5)) (fun _ h9 => h9) rfl hin rfl (by decide +kernel) rfl rfl (Nat.le_of_ble_eq_true rfl) (show decode cX6_init 17 = .ok (.putfield 15, 3) by decide +kernel) (fun H locs hP hD hS => ?_)
  have hP : va_P (gD E) vwCl [(h0, .inr (6, [.int 0, .int 0, .ref a1, .ref a2, .null, .int 0, .long 0, .null, .null, .int 0, .null])), (a1, .inl (gca E 0, 13, .inl (fun _ => 0))), (a2, .inl (gca E 0, 7, .inl (fun _ => 0)))] H := hP
  have hD : va_D A [(h0, .inr (6, [.int 0, .int 0, .ref a1, .ref a2, .null, .int 0, .long 0, .null, .null, .int 0, .null])), (a1, .inl (gca E 0, 13, .inl (fun _ => 0))), (a2, .inl (gca E 0, 7, .inl (fun _ => 0)))] := hD
  refine lv_aload_n hx hb (show decode cX6_init 20 = .ok (.aload_n 0, 1) by decide +kernel) rfl (lv_at hl 0 rfl) ?_
  refine lv_bipush hx hb (show decode cX6_init 21 = .ok (.bipush 7, 2) by decide +kernel) rfl ?_
  refine va_newa (atype := .int) (ty := .int) (a0 := (7, .inl (fun _ => 0))) (N' := 7) hx hb (hts _ (List.mem_cons_of_mem _ gwi_3)) rfl hK hP hD hS hA (fun _ => rfl) (by decide) rfl (Nat.le_of_ble_eq_true rfl) (Nat.le_of_ble_eq_true rfl) (Nat.le_of_ble_eq_true rfl) (show decode cX6_init 23 = .ok (.newarray .int, 2) by decide +kernel) (fun a3 cA H hK2 hP hD hS => ?_)
  have hcA : cA = gca E 0 := gca_eq hK2 0 rfl rfl
  subst hcA
  clear hK2
  have hP : va_P (gD E) vwCl [(h0, .inr (6, [.int 0, .int 0, .ref a1, .ref a2, .null, .int 0, .long 0, .null, .null, .int 0, .null])), (a1, .inl (gca E 0, 13, .inl (fun _ => 0))), (a2, .inl (gca E 0, 7, .inl (fun _ => 0))), (a3, .inl (gca E 0, 7, .inl (fun _ => 0)))] H := hP
  have hD : va_D A [(h0, .inr (6, [.int 0, .int 0, .ref a1, .ref a2, .null, .int 0, .long 0, .null, .null, .int 0, .null])), (a1, .inl (gca E 0, 13, .inl (fun _ => 0))), (a2, .inl (gca E 0, 7, .inl (fun _ => 0))), (a3, .inl (gca E 0, 7, .inl (fun _ => 0)))] := hD
  refine va_putF (D := gD E) (ci := 6) (v := .ref a3) (ty := .array .int) (C := RX6) (T := TX6) (N := 11) hx hb hts2 (fun w hw => gBig_of (guw_6 w hw) (gug_6 w hw)) tyX6 tyX6_ok (by decide +kernel) hown hK hP hD hS 0 rfl rfl 4 (by decide) (hts _ (List.mem_cons_of_mem _ gwi_6)) (fun _ h9 => h9) rfl hin rfl (by decide +kernel) rfl rfl (Nat.le_of_ble_eq_true rfl) (show decode cX6_init 25 = .ok (.putfield 18, 3) by decide +kernel) (fun H locs hP hD hS => ?_)
  have hP : va_P (gD E) vwCl [(h0, .inr (6, [.int 0, .int 0, .ref a1, .ref a2, .ref a3, .int 0, .long 0, .null, .null, .int 0, .null])), (a1, .inl (gca E 0, 13, .inl (fun _ => 0))), (a2, .inl (gca E 0, 7, .inl (fun _ => 0))), (a3, .inl (gca E 0, 7, .inl (fun _ => 0)))] H := hP
  have hD : va_D A [(h0, .inr (6, [.int 0, .int 0, .ref a1, .ref a2, .ref a3, .int 0, .long 0, .null, .null, .int 0, .null])), (a1, .inl (gca E 0, 13, .inl (fun _ => 0))), (a2, .inl (gca E 0, 7, .inl (fun _ => 0))), (a3, .inl (gca E 0, 7, .inl (fun _ => 0)))] := hD
  refine lv_aload_n hx hb (show decode cX6_init 28 = .ok (.aload_n 0, 1) by decide +kernel) rfl (lv_at hl 0 rfl) ?_
  refine lv_lconst hx hb (show decode cX6_init 29 = .ok (.lconst 1, 1) by decide +kernel) rfl ?_
  refine va_put (D := gD E) (ci := 6) (v := .long 1) (ty := .long) (C := RX6) (T := TX6) (N := 11) hx hb hts2 (fun w hw => gBig_of (guw_6 w hw) (gug_6 w hw)) tyX6 tyX6_ok (by decide +kernel) hown hK hP hD hS 0 rfl rfl 6 (by decide) (hts _ (List.mem_cons_of_mem _ gwi_7)) (fun _ h9 => h9) rfl (by decide +kernel) rfl rfl (Nat.le_of_ble_eq_true rfl) (show decode cX6_init 30 = .ok (.putfield 21, 3) by decide +kernel) (fun H locs hP hD hS => ?_)
  have hP : va_P (gD E) vwCl [(h0, .inr (6, [.int 0, .int 0, .ref a1, .ref a2, .ref a3, .int 0, .long 1, .null, .null, .int 0, .null])), (a1, .inl (gca E 0, 13, .inl (fun _ => 0))), (a2, .inl (gca E 0, 7, .inl (fun _ => 0))), (a3, .inl (gca E 0, 7, .inl (fun _ => 0)))] H := hP
  have hD : va_D A [(h0, .inr (6, [.int 0, .int 0, .ref a1, .ref a2, .ref a3, .int 0, .long 1, .null, .null, .int 0, .null])), (a1, .inl (gca E 0, 13, .inl (fun _ => 0))), (a2, .inl (gca E 0, 7, .inl (fun _ => 0))), (a3, .inl (gca E 0, 7, .inl (fun _ => 0)))] := hD
  refine lv_aload_n hx hb (show decode cX6_init 33 = .ok (.aload_n 0, 1) by decide +kernel) rfl (lv_at hl 0 rfl) ?_
  refine lv_bipush hx hb (show decode cX6_init 34 = .ok (.bipush 7, 2) by decide +kernel) rfl ?_
  refine va_newa (atype := .long) (ty := .long) (a0 := (7, .inr (.inl (fun _ => 0)))) (N' := 7) hx hb (hts _ (List.mem_cons_of_mem _ gwi_8)) rfl hK hP hD hS hA (fun _ => rfl) (by decide) rfl (Nat.le_of_ble_eq_true rfl) (Nat.le_of_ble_eq_true rfl) (Nat.le_of_ble_eq_true rfl) (show decode cX6_init 36 = .ok (.newarray .long, 2) by decide +kernel) (fun a4 cA H hK2 hP hD hS => ?_)
  have hcA : cA = gca E 1 := gca_eq hK2 1 rfl rfl
  subst hcA
  clear hK2
  have hP : va_P (gD E) vwCl [(h0, .inr (6, [.int 0, .int 0, .ref a1, .ref a2, .ref a3, .int 0, .long 1, .null, .null, .int 0, .null])), (a1, .inl (gca E 0, 13, .inl (fun _ => 0))), (a2, .inl (gca E 0, 7, .inl (fun _ => 0))), (a3, .inl (gca E 0, 7, .inl (fun _ => 0))), (a4, .inl (gca E 1, 7, .inr (.inl (fun _ => 0))))] H := hP
  have hD : va_D A [(h0, .inr (6, [.int 0, .int 0, .ref a1, .ref a2, .ref a3, .int 0, .long 1, .null, .null, .int 0, .null])), (a1, .inl (gca E 0, 13, .inl (fun _ => 0))), (a2, .inl (gca E 0, 7, .inl (fun _ => 0))), (a3, .inl (gca E 0, 7, .inl (fun _ => 0))), (a4, .inl (gca E 1, 7, .inr (.inl (fun _ => 0))))] := hD
  refine va_putF (D := gD E) (ci := 6) (v := .ref a4) (ty := .array .long) (C := RX6) (T := TX6) (N := 11) hx hb hts2 (fun w hw => gBig_of (guw_6 w hw) (gug_6 w hw)) tyX6 tyX6_ok (by decide +kernel) hown hK hP hD hS 0 rfl rfl 7 (by decide) (hts _ (List.mem_cons_of_mem _ gwi_9)) (fun _ h9 => h9) rfl hin rfl (by decide +kernel) rfl rfl (Nat.le_of_ble_eq_true rfl) (show decode cX6_init 38 = .ok (.putfield 25, 3) by decide +kernel) (fun H locs hP hD hS => ?_)
  have hP : va_P (gD E) vwCl [(h0, .inr (6, [.int 0, .int 0, .ref a1, .ref a2, .ref a3, .int 0, .long 1, .ref a4, .null, .int 0, .null])), (a1, .inl (gca E 0, 13, .inl (fun _ => 0))), (a2, .inl (gca E 0, 7, .inl (fun _ => 0))), (a3, .inl (gca E 0, 7, .inl (fun _ => 0))), (a4, .inl (gca E 1, 7, .inr (.inl (fun _ => 0))))] H := hP
  have hD : va_D A [(h0, .inr (6, [.int 0, .int 0, .ref a1, .ref a2, .ref a3, .int 0, .long 1, .ref a4, .null, .int 0, .null])), (a1, .inl (gca E 0, 13, .inl (fun _ => 0))), (a2, .inl (gca E 0, 7, .inl (fun _ => 0))), (a3, .inl (gca E 0, 7, .inl (fun _ => 0))), (a4, .inl (gca E 1, 7, .inr (.inl (fun _ => 0))))] := hD
  refine lv_aload_n hx hb (show decode cX6_init 41 = .ok (.aload_n 0, 1) by decide +kernel) rfl (lv_at hl 0 rfl) ?_
  refine lv_bipush hx hb (show decode cX6_init 42 = .ok (.bipush 7, 2) by decide +kernel) rfl ?_
  refine va_newa (atype := .int) (ty := .int) (a0 := (7, .inl (fun _ => 0))) (N' := 7) hx hb (hts _ (List.mem_cons_of_mem _ gwi_3)) rfl hK hP hD hS hA (fun _ => rfl) (by decide) rfl (Nat.le_of_ble_eq_true rfl) (Nat.le_of_ble_eq_true rfl) (Nat.le_of_ble_eq_true rfl) (show decode cX6_init 44 = .ok (.newarray .int, 2) by decide +kernel) (fun a5 cA H hK2 hP hD hS => ?_)
  have hcA : cA = gca E 0 := gca_eq hK2 0 rfl rfl
  subst hcA
  clear hK2
  have hP : va_P (gD E) vwCl [(h0, .inr (6, [.int 0, .int 0, .ref a1, .ref a2, .ref a3, .int 0, .long 1, .ref a4, .null, .int 0, .null])), (a1, .inl (gca E 0, 13, .inl (fun _ => 0))), (a2, .inl (gca E 0, 7, .inl (fun _ => 0))), (a3, .inl (gca E 0, 7, .inl (fun _ => 0))), (a4, .inl (gca E 1, 7, .inr (.inl (fun _ => 0)))), (a5, .inl (gca E 0, 7, .inl (fun _ => 0)))] H := hP
  have hD : va_D A [(h0, .inr (6, [.int 0, .int 0, .ref a1, .ref a2, .ref a3, .int 0, .long 1, .ref a4, .null, .int 0, .null])), (a1, .inl (gca E 0, 13, .inl (fun _ => 0))), (a2, .inl (gca E 0, 7, .inl (fun _ => 0))), (a3, .inl (gca E 0, 7, .inl (fun _ => 0))), (a4, .inl (gca E 1, 7, .inr (.inl (fun _ => 0)))), (a5, .inl (gca E 0, 7, .inl (fun _ => 0)))] := hD
  refine va_putF (D := gD E) (ci := 6) (v := .ref a5) (ty := .array .int) (C := RX6) (T := TX6) (N := 11) hx hb hts2 (fun w hw => gBig_of (guw_6 w hw) (gug_6 w hw)) tyX6 tyX6_ok (by decide +kernel) hown hK hP hD hS 0 rfl rfl 8 (by decide) (hts _ (List.mem_cons_of_mem _ gwi_10)) (fun _ h9 => h9) rfl hin rfl (by decide +kernel) rfl rfl (Nat.le_of_ble_eq_true rfl) (show decode cX6_init 46 = .ok (.putfield 29, 3) by decide +kernel) (fun H locs hP hD hS => ?_)
  have hP : va_P (gD E) vwCl [(h0, .inr (6, [.int 0, .int 0, .ref a1, .ref a2, .ref a3, .int 0, .long 1, .ref a4, .ref a5, .int 0, .null])), (a1, .inl (gca E 0, 13, .inl (fun _ => 0))), (a2, .inl (gca E 0, 7, .inl (fun _ => 0))), (a3, .inl (gca E 0, 7, .inl (fun _ => 0))), (a4, .inl (gca E 1, 7, .inr (.inl (fun _ => 0)))), (a5, .inl (gca E 0, 7, .inl (fun _ => 0)))] H := hP
  have hD : va_D A [(h0, .inr (6, [.int 0, .int 0, .ref a1, .ref a2, .ref a3, .int 0, .long 1, .ref a4, .ref a5, .int 0, .null])), (a1, .inl (gca E 0, 13, .inl (fun _ => 0))), (a2, .inl (gca E 0, 7, .inl (fun _ => 0))), (a3, .inl (gca E 0, 7, .inl (fun _ => 0))), (a4, .inl (gca E 1, 7, .inr (.inl (fun _ => 0)))), (a5, .inl (gca E 0, 7, .inl (fun _ => 0)))] := hD
  refine lv_aload_n hx hb (show decode cX6_init 49 = .ok (.aload_n 0, 1) by decide +kernel) rfl (lv_at hl 0 rfl) ?_
  refine lv_bipush hx hb (show decode cX6_init 50 = .ok (.bipush 90, 2) by decide +kernel) rfl ?_
  refine va_newa (atype := .int) (ty := .int) (a0 := (90, .inl (fun _ => 0))) (N' := 90) hx hb (hts _ (List.mem_cons_of_mem _ gwi_3)) rfl hK hP hD hS hA (fun _ => rfl) (by decide) rfl (Nat.le_of_ble_eq_true rfl) (Nat.le_of_ble_eq_true rfl) (Nat.le_of_ble_eq_true rfl) (show decode cX6_init 52 = .ok (.newarray .int, 2) by decide +kernel) (fun a6 cA H hK2 hP hD hS => ?_)
  have hcA : cA = gca E 0 := gca_eq hK2 0 rfl rfl
  subst hcA
  clear hK2
  have hP : va_P (gD E) vwCl [(h0, .inr (6, [.int 0, .int 0, .ref a1, .ref a2, .ref a3, .int 0, .long 1, .ref a4, .ref a5, .int 0, .null])), (a1, .inl (gca E 0, 13, .inl (fun _ => 0))), (a2, .inl (gca E 0, 7, .inl (fun _ => 0))), (a3, .inl (gca E 0, 7, .inl (fun _ => 0))), (a4, .inl (gca E 1, 7, .inr (.inl (fun _ => 0)))), (a5, .inl (gca E 0, 7, .inl (fun _ => 0))), (a6, .inl (gca E 0, 90, .inl (fun _ => 0)))] H := hP
  have hD : va_D A [(h0, .inr (6, [.int 0, .int 0, .ref a1, .ref a2, .ref a3, .int 0, .long 1, .ref a4, .ref a5, .int 0, .null])), (a1, .inl (gca E 0, 13, .inl (fun _ => 0))), (a2, .inl (gca E 0, 7, .inl (fun _ => 0))), (a3, .inl (gca E 0, 7, .inl (fun _ => 0))), (a4, .inl (gca E 1, 7, .inr (.inl (fun _ => 0)))), (a5, .inl (gca E 0, 7, .inl (fun _ => 0))), (a6, .inl (gca E 0, 90, .inl (fun _ => 0)))] := hD
  refine va_putF (D := gD E) (ci := 6) (v := .ref a6) (ty := .array .int) (C := RX6) (T := TX6) (N := 11) hx hb hts2 (fun w hw => gBig_of (guw_6 w hw) (gug_6 w hw)) tyX6 tyX6_ok (by decide +kernel) hown hK hP hD hS 0 rfl rfl 10 (by decide) (hts _ (List.mem_cons_of_mem _ gwi_11)) (fun _ h9 => h9) rfl hin rfl (by decide +kernel) rfl rfl (Nat.le_of_ble_eq_true rfl) (show decode cX6_init 54 = .ok (.putfield 32, 3) by decide +kernel) (fun H locs hP hD hS => ?_)
  have hP : va_P (gD E) vwCl [(h0, .inr (6, [.int 0, .int 0, .ref a1, .ref a2, .ref a3, .int 0, .long 1, .ref a4, .ref a5, .int 0, .ref a6])), (a1, .inl (gca E 0, 13, .inl (fun _ => 0))), (a2, .inl (gca E 0, 7, .inl (fun _ => 0))), (a3, .inl (gca E 0, 7, .inl (fun _ => 0))), (a4, .inl (gca E 1, 7, .inr (.inl (fun _ => 0)))), (a5, .inl (gca E 0, 7, .inl (fun _ => 0))), (a6, .inl (gca E 0, 90, .inl (fun _ => 0)))] H := hP
  have hD : va_D A [(h0, .inr (6, [.int 0, .int 0, .ref a1, .ref a2, .ref a3, .int 0, .long 1, .ref a4, .ref a5, .int 0, .ref a6])), (a1, .inl (gca E 0, 13, .inl (fun _ => 0))), (a2, .inl (gca E 0, 7, .inl (fun _ => 0))), (a3, .inl (gca E 0, 7, .inl (fun _ => 0))), (a4, .inl (gca E 1, 7, .inr (.inl (fun _ => 0)))), (a5, .inl (gca E 0, 7, .inl (fun _ => 0))), (a6, .inl (gca E 0, 90, .inl (fun _ => 0)))] := hD
  exact W.vret hx hb hr (fun t ht hW => ⟨⟨(fun i => match i with | 0 => a1 | 1 => a2 | 2 => a3 | 3 => a4 | 4 => a5 | 5 => a6 | _ => 0), rfl, trivial, by rw [ht]; exact hP, hD⟩, hS.F ht⟩) hS.2.2 (show decode cX6_init 57 = .ok (.return_, 1) by decide +kernel)
end
section
/-! ===== a new state ===== -/
def gadN (ad : gR → Nat) (m q : Nat) (f : Nat → Nat) : gR → Nat := fun r => if 6 ≤ r.1 ∧ r.1 ≤ 12 ∧ r.2.1 = m ∧ r.2.2 = 0 then (if r.1 = 6 then q else f (r.1 - 7)) else ad r
theorem gadN_n {ad : gR → Nat} {m q : Nat} {f : Nat → Nat} {r : gR} (h : r.2.1 ≠ m) : gadN ad m q f r = ad r := if_neg (fun z => h z.2.2.1)
theorem gadN_k {ad : gR → Nat} {m q : Nat} {f : Nat → Nat} {r : gR} (h : 12 < r.1 ∨ r.1 < 6) : gadN ad m q f r = ad r := if_neg (fun z => by omega)
theorem gUB_ne {B : gB} {m a : Nat} (h : a ≠ m) : gUB B m a = B a := if_neg h
theorem gids_nm {B : gB} {m : Nat} {r : gR} (h : r ∈ gids B) (h3 : 3 ≤ m) (hB : B m = false) : r.2.1 ≠ m := by
  intro e
  have h2 := (List.mem_filter.mp h).2
  rw [e, hB, Bool.or_false] at h2
  have := Nat.le_of_ble_eq_true h2
  omega
theorem garr_5 {k n rk : Nat} (h : garr k = some (5, n, rk)) : 12 < rk := by
  unfold garr at h
  split at h <;> first | (cases h; done) | (cases h; decide)
theorem garr_6 {k n rk : Nat} (h : garr k = some (6, n, rk)) : 3 ≤ rk ∧ rk + n ≤ 13 := by
  unfold garr at h
  split at h <;> first | (cases h; done) | (cases h; decide)
theorem genc_new {ca : Nat → ClassId} {ad : gR → Nat} {I : gI} {J : gJ} {B : gB} {m q : Nat} {f : Nat → Nat} {r : gR} (hr : r ∈ gids B) (h3 : 3 ≤ m) (h12 : m ≤ 12) (hB : B m = false) (hk : gBok B) :
    genc ca (gadN ad m q f) (gnwI I m) (gnwJ J m) (gUB B m) r = genc ca ad I J B r := by
  have hn := gids_nm hr h3 hB
  have hI : ∀ c j, gnwI I m r.1 r.2.1 c j = I r.1 r.2.1 c j := fun c j => if_neg (fun z => hn z.1)
  have hJ : ∀ j, gnwJ J m r.1 r.2.1 j = J r.1 r.2.1 j := fun j => by
    unfold gnwJ
    rw [if_neg (fun z => hn z.1), if_neg (fun z => hn z.1)]
  cases ho : gobj r.1 with
  | some z =>
    obtain ⟨ci, fl⟩ := z
    rw [genc_obj ho, genc_obj ho]
    congr 2
    apply List.ext_getElem?
    intro b
    cases hf : fl[b]? with
    | none =>
      rw [List.getElem?_eq_none (by rw [gfvals_len]; exact List.getElem?_eq_none_iff.mp hf), List.getElem?_eq_none (by rw [gfvals_len]; exact List.getElem?_eq_none_iff.mp hf)]
    | some z =>
      rw [gfvals_get hf, gfvals_get hf]
      congr 1
      unfold gfval
      rw [hI, hJ]
      split
      · rfl
      · split
        · rfl
        · rename_i h100
          by_cases h103 : 103 ≤ z.1
          · rw [gadN_n (gids_nm (gids_ref hr ho (List.mem_of_getElem? hf) h103) h3 hB)]
          · rw [gadN_k (Or.inr (show z.1 - 100 < 6 by omega))]
  | none =>
    cases ha : garr r.1 with
    | none =>
      unfold genc
      rw [ho, ha]
    | some z =>
      obtain ⟨t, n, rk⟩ := z
      rw [genc_arr ha, genc_arr ha]
      have hI2 : gnwI I m r.1 r.2.1 r.2.2 = I r.1 r.2.1 r.2.2 := funext fun j => hI _ j
      have hJ2 : gnwJ J m r.1 r.2.1 = J r.1 r.2.1 := funext fun j => hJ j
      unfold garrE
      rw [hI2, hJ2]
      split
      · rfl
      · rfl
      · rfl
      · rfl
      · rfl
      · congr 7
        funext j
        rw [gadN_k (Or.inl (garr_5 ha))]
      · rename_i g0 g1 g2 g3 g4 g5
        congr 7
        funext j
        have h6 : t = 6 := by
          unfold garr at ha
          split at ha <;> first | (cases ha; done) | (cases ha; first | rfl | exact absurd rfl g0 | exact absurd rfl g1 | exact absurd rfl g2 | exact absurd rfl g3 | exact absurd rfl g4 | exact absurd rfl g5)
        subst h6
        obtain ⟨b1, b2⟩ := garr_6 ha
        rw [gUB_ne (show rk + j + 17 ≠ m by omega)]
        split
        · rename_i hc
          obtain ⟨c1, c2⟩ := Bool.and_eq_true_iff.mp hc
          have c1 : j < n := Nat.le_of_ble_eq_true c1
          have := hk (rk + j) (by omega) (by omega) c2
          rw [gadN_n (show rk + j ≠ m from fun e => by rw [e, hB] at this; cases this)]
        · rfl
theorem gzw_get {E : gEn} {ad : gR → Nat} {I : gI} {J : gJ} {B : gB} {m q : Nat} {f : Nat → Nat} {r : gR} (hr : r ∈ gstate m) :
    ∃ k : Nat, k = r.1 - 6 ∧ (6 ≤ r.1 ∧ r.1 ≤ 12 ∧ r.2.1 = m ∧ r.2.2 = 0) ∧ (gzw_6 E q f)[k]? = some (gadN ad m q f r, genc (gca E) (gadN ad m q f) (gnwI I m) (gnwJ J m) (gUB B m) r) := by
  have hI : ∀ a c j, 6 ≤ a → a ≤ 12 → gnwI I m a m c j = 0 := fun a c j h1 h2 => if_pos ⟨rfl, h1, h2⟩
  have hJ : ∀ j, gnwJ J m 10 m j = 0 := fun j => by
    unfold gnwJ
    rw [if_neg (fun z => by cases z.2.1), if_pos ⟨rfl, rfl⟩]
  have hJ6 : gnwJ J m 6 m 6 = 1 := if_pos ⟨rfl, rfl, rfl⟩
  have hA : ∀ k, 6 ≤ k → k ≤ 12 → k ≠ 6 → gadN ad m q f (k, m, 0) = f (k - 7) := fun k h1 h2 h3 => by
    unfold gadN
    rw [if_pos ⟨h1, h2, rfl, rfl⟩, if_neg h3]
  have hA6 : gadN ad m q f (6, m, 0) = q := by
    unfold gadN
    rw [if_pos ⟨Nat.le_of_ble_eq_true rfl, Nat.le_of_ble_eq_true rfl, rfl, rfl⟩, if_pos rfl]
  have hF : ∀ a, 6 ≤ a → a ≤ 12 → gnwI I m a m 0 = fun _ => 0 := fun a h1 h2 => funext fun j => hI a 0 j h1 h2
  have hG : gnwJ J m 10 m = fun _ => 0 := funext hJ
  refine ⟨r.1 - 6, rfl, ?_⟩
  simp only [gstate, List.mem_cons, List.not_mem_nil, or_false] at hr
  rcases hr with rfl | rfl | rfl | rfl | rfl | rfl | rfl
  · refine ⟨⟨Nat.le_of_ble_eq_true rfl, Nat.le_of_ble_eq_true rfl, rfl, rfl⟩, ?_⟩
    show some _ = _
    rw [genc_obj (show gobj 6 = some _ from rfl), hA6]
    simp only [gfvals, List.mapIdx_cons, List.mapIdx_nil, gfval]
    simp (decide := true) only [if_true, if_false, Nat.zero_add, Nat.reduceAdd, hI 6 0 _ (by decide) (by decide), hJ6, Nat.add_zero, Nat.reduceSub, hA 7 (by decide) (by decide) (by decide), hA 8 (by decide) (by decide) (by decide), hA 9 (by decide) (by decide) (by decide), hA 10 (by decide) (by decide) (by decide), hA 11 (by decide) (by decide) (by decide), hA 12 (by decide) (by decide) (by decide)]
  · refine ⟨⟨Nat.le_of_ble_eq_true rfl, Nat.le_of_ble_eq_true rfl, rfl, rfl⟩, ?_⟩
    rw [genc_arr (show garr 7 = some _ from rfl), hA 7 (by decide) (by decide) (by decide)]
    simp only [garrE, hF 7 (by decide) (by decide)]
    rfl
  · refine ⟨⟨Nat.le_of_ble_eq_true rfl, Nat.le_of_ble_eq_true rfl, rfl, rfl⟩, ?_⟩
    rw [genc_arr (show garr 8 = some _ from rfl), hA 8 (by decide) (by decide) (by decide)]
    simp only [garrE, hF 8 (by decide) (by decide)]
    rfl
  · refine ⟨⟨Nat.le_of_ble_eq_true rfl, Nat.le_of_ble_eq_true rfl, rfl, rfl⟩, ?_⟩
    rw [genc_arr (show garr 9 = some _ from rfl), hA 9 (by decide) (by decide) (by decide)]
    simp only [garrE, hF 9 (by decide) (by decide)]
    rfl
  · refine ⟨⟨Nat.le_of_ble_eq_true rfl, Nat.le_of_ble_eq_true rfl, rfl, rfl⟩, ?_⟩
    rw [genc_arr (show garr 10 = some _ from rfl), hA 10 (by decide) (by decide) (by decide)]
    simp only [garrE, hG]
    rfl
  · refine ⟨⟨Nat.le_of_ble_eq_true rfl, Nat.le_of_ble_eq_true rfl, rfl, rfl⟩, ?_⟩
    rw [genc_arr (show garr 11 = some _ from rfl), hA 11 (by decide) (by decide) (by decide)]
    simp only [garrE, hF 11 (by decide) (by decide)]
    rfl
  · refine ⟨⟨Nat.le_of_ble_eq_true rfl, Nat.le_of_ble_eq_true rfl, rfl, rfl⟩, ?_⟩
    rw [genc_arr (show garr 12 = some _ from rfl), hA 12 (by decide) (by decide) (by decide)]
    simp only [garrE, hF 12 (by decide) (by decide)]
    rfl
theorem gids_new {B : gB} {m : Nat} (h3 : 3 ≤ m) (h12 : m ≤ 12) {r : gR} (h : r ∈ gids (gUB B m)) : r ∈ gids B ∨ r ∈ gstate m := by
  obtain ⟨h1, h2⟩ := List.mem_filter.mp h
  by_cases hm : r.2.1 = m
  · refine Or.inr ?_
    have key : (List.range 13).all (fun n => Nat.blt n 3 || gall.all (fun r => !(Nat.beq r.2.1 n) || (gstate n).contains r)) = true := by decide +kernel
    have k1 := List.all_eq_true.mp key m (List.mem_range.mpr (by omega))
    rw [show Nat.blt m 3 = false from Bool.eq_false_iff.mpr (fun z => by have := Nat.le_of_ble_eq_true z; omega), Bool.false_or] at k1
    have k2 := List.all_eq_true.mp k1 r h1
    rw [show Nat.beq r.2.1 m = true from by rw [hm]; exact Nat.beq_refl m] at k2
    exact List.contains_iff_mem.mp k2
  · refine Or.inl (List.mem_filter.mpr ⟨h1, ?_⟩)
    rw [gUB_ne hm] at h2
    exact h2
theorem gRep.new {E : gEn} {ad : gR → Nat} {I : gI} {J : gJ} {B : gB} {m q : Nat} {f : Nat → Nat} {H : Heap} (hP : va_P (gD E) vwCl (gws E ad I J B ++ gzw_6 E q f) H) (hD : va_D (gA E) (gws E ad I J B ++ gzw_6 E q f)) (hx : ∀ r : gR, r.1 ≤ 2 → ad r = gax E r) (hk : gBok B)
    (h3 : 3 ≤ m) (h12 : m ≤ 12) (hB : B m = false) : gRep E (gadN ad m q f) (gnwI I m) (gnwJ J m) (gUB B m) H := by
  -- each thing stands somewhere in the list
  have key : ∀ r ∈ gids (gUB B m), ∃ k, (gws E ad I J B ++ gzw_6 E q f)[k]? = some (gadN ad m q f r, genc (gca E) (gadN ad m q f) (gnwI I m) (gnwJ J m) (gUB B m) r) ∧ ((∃ k0, k = k0 ∧ (gids B)[k0]? = some r) ∨ (r.2.1 = m ∧ r.2.2 = 0 ∧ 6 ≤ r.1 ∧ k = (gids B).length + (r.1 - 6))) := by
    intro r hr
    rcases gids_new h3 h12 hr with h | h
    · obtain ⟨k, hk1, hk2⟩ := gws_get (E := E) (ad := ad) (I := I) (J := J) h
      have hl : k < (gws E ad I J B).length := (List.getElem?_eq_some_iff.mp hk2).1
      refine ⟨k, ?_, Or.inl ⟨k, rfl, hk1⟩⟩
      rw [List.getElem?_append_left hl, hk2, gadN_n (gids_nm h h3 hB), genc_new h h3 h12 hB hk]
    · obtain ⟨k, rfl, ⟨a1, a2, a3, a4⟩, hk2⟩ := gzw_get (E := E) (ad := ad) (I := I) (J := J) (B := B) (q := q) (f := f) h
      refine ⟨(gids B).length + (r.1 - 6), ?_, Or.inr ⟨a3, a4, a1, rfl⟩⟩
      have hl : (gws E ad I J B).length = (gids B).length := by unfold gws; rw [List.length_map]
      rw [List.getElem?_append_right (by omega), hl, show (gids B).length + (r.1 - 6) - (gids B).length = r.1 - 6 by omega]
      exact hk2
  refine ⟨fun k z hz => ?_, ⟨fun i j x z hi hj hxz => ?_, fun k z hz => ?_⟩, fun r hr => (gadN_k (Or.inr (by omega))).trans (hx r hr), fun n hn hn2 hB2 => ?_⟩
  · unfold gws at hz
    rw [List.getElem?_map] at hz
    cases hr : (gids (gUB B m))[k]? with
    | none => rw [hr] at hz; cases hz
    | some r =>
      rw [hr] at hz
      cases hz
      obtain ⟨k2, h1, -⟩ := key r (List.mem_of_getElem? hr)
      exact hP k2 _ h1
  · unfold gws at hi hj
    rw [List.getElem?_map] at hi hj
    cases hr : (gids (gUB B m))[i]? with
    | none => rw [hr] at hi; cases hi
    | some r =>
      cases hr2 : (gids (gUB B m))[j]? with
      | none => rw [hr2] at hj; cases hj
      | some r2 =>
        rw [hr] at hi
        rw [hr2] at hj
        cases hi
        cases hj
        obtain ⟨k1, a1, a2⟩ := key r (List.mem_of_getElem? hr)
        obtain ⟨k2, b1, b2⟩ := key r2 (List.mem_of_getElem? hr2)
        have e := hD.1 k1 k2 _ _ a1 b1 hxz
        have hrr : r = r2 := by
          rcases a2 with ⟨k0, rfl, a3⟩ | ⟨a3, a4, a5, a6⟩
          · rcases b2 with ⟨k0, rfl, b3⟩ | ⟨b3, b4, b5, b6⟩
            · subst e
              exact Option.some.inj (a3.symm.trans b3)
            · have := (List.getElem?_eq_some_iff.mp a3).1
              omega
          · rcases b2 with ⟨k0, rfl, b3⟩ | ⟨b3, b4, b5, b6⟩
            · have := (List.getElem?_eq_some_iff.mp b3).1
              omega
            · obtain ⟨r1, r3, r4⟩ := r
              obtain ⟨s1, s3, s4⟩ := r2
              simp only at a3 a4 a5 a6 b3 b4 b5 b6
              have : r1 = s1 := by omega
              subst this
              rw [a3, a4, b3, b4]
        subst hrr
        obtain ⟨g1, e1⟩ := List.getElem?_eq_some_iff.mp hr
        obtain ⟨g2, e2⟩ := List.getElem?_eq_some_iff.mp hr2
        have hp := List.pairwise_iff_getElem.mp (gids_nodup (gUB B m))
        rcases Nat.lt_trichotomy i j with h | h | h
        · exact absurd (e1.trans e2.symm) (hp i j g1 g2 h)
        · exact h
        · exact absurd (e2.trans e1.symm) (hp j i g2 g1 h)
  · unfold gws at hz
    rw [List.getElem?_map] at hz
    cases hr : (gids (gUB B m))[k]? with
    | none => rw [hr] at hz; cases hz
    | some r =>
      rw [hr] at hz
      cases hz
      obtain ⟨k2, h1, -⟩ := key r (List.mem_of_getElem? hr)
      exact hD.2 k2 _ h1
  · rw [gUB_ne (by omega)] at hB2
    by_cases e : n = m
    · subst e
      exact if_pos rfl
    · rw [gUB_ne e]
      exact hk n hn hn2 hB2
theorem gGood_code {y : MethodName} {b : ByteArray} {ml : Nat} {r : Option FieldType} (hc : Cond.code y b ml r ∈ gBig) : GoodIn gBig (Cond.code y b ml r :: gBig) := by
  intro u hu
  rcases List.mem_cons.mp hu with rfl | hu
  · exact ⟨hc, gBig_good hc⟩
  · exact ⟨hu, gBig_good hu⟩
theorem gwi_12 : (Cond.classLink RX2 9 RX6) ∈ gBig := gBig_of (gpc1 (List.mem_of_getElem? (i := 166) rfl)) rfl
theorem gwi_13 : (Cond.classLink RX7 16 RX6) ∈ gBig := gBig_of (gpc1 (List.mem_of_getElem? (i := 158) rfl)) rfl
theorem gwi_14 : (Cond.instantiable RX6 11) ∈ gBig := gBig_of (gpc1 (List.mem_of_getElem? (i := 44) rfl)) rfl
theorem gwi_15 : (Cond.code yX6_init cX6_init 1 none) ∈ gBig := gBig_of (gpc1 (List.mem_of_getElem? (i := 47) rfl)) rfl
theorem gwi_16 : (Cond.instanceMethod yX6_init) ∈ gBig := gBig_of (gpc1 (List.mem_of_getElem? (i := 46) rfl)) rfl
theorem va_nd_of : ∀ {l : List Nat}, l.Nodup → va_nd l = true
  | [], _ => rfl
  | a :: l, h => by
    obtain ⟨h1, h2⟩ := List.nodup_cons.mp h
    show (decide (a ∉ l) && va_nd l) = true
    rw [va_nd_of h2, Bool.and_true]
    exact decide_eq_true h1
theorem gidx_r {α : Type} (l : List α) (x : List α) : (List.range l.length).map (fun i => (l ++ x)[i]?) = l.map some := by
  apply List.ext_getElem?
  intro i
  rw [List.getElem?_map, List.getElem?_map]
  by_cases h : i < l.length
  · rw [List.getElem?_range h]
    show some ((l ++ x)[i]?) = _
    rw [List.getElem?_append_left h, List.getElem?_eq_getElem h]
    rfl
  · rw [List.getElem?_eq_none (by simpa using Nat.le_of_not_lt h), List.getElem?_eq_none (Nat.le_of_not_lt h)]
    rfl
set_option maxHeartbeats 4000000 in
theorem gNew_ok (E : gEn) : gNewOK E := by
  intro y pc ls st I J B c w Q X ik ic m hik hcl2 d0 d3 d4 hfr3 hlo40 hst hm hroom hk hc hw p e s mm args below meth cc ad0 Bs hC hT H locs LS ad hS
  obtain ⟨ux, ub, ur, uml, hown, hts, ulk, hE⟩ := id hC
  obtain ⟨h3, h12, hB⟩ := hm
  have hlnk : Cond.classLink (hy y).cls ik RX6 ∈ gBig ∧ Cond.methodLinkNest (hy y).cls ic yX6_init "ToeplitzLab" ∈ gNst := by
    rw [hcl2]
    rcases hik with h | h
    · have h1 : hcl y = 2 := congrArg Prod.fst h
      have h2 : ik = 9 := congrArg (fun z : Nat × Nat × Nat => z.2.1) h
      have h4 : ic = 21 := congrArg (fun z : Nat × Nat × Nat => z.2.2) h
      rw [h1, h2, h4]
      exact ⟨gwi_12, by unfold gNst; exact List.mem_of_getElem? (i := 5) rfl⟩
    · have h1 : hcl y = 7 := congrArg Prod.fst h
      have h2 : ik = 16 := congrArg (fun z : Nat × Nat × Nat => z.2.1) h
      have h4 : ic = 18 := congrArg (fun z : Nat × Nat × Nat => z.2.2) h
      rw [h1, h2, h4]
      exact ⟨gwi_13, by unfold gNst; exact List.mem_of_getElem? (i := 6) rfl⟩
  have hA : ∀ q : Nat, s.heap.size ≤ q → gA E q := fun q h => ⟨Nat.le_trans hE.2.2.2.2.2.2.2.2.2.2.2.2.2.2.2.2.2.1 h, fun h2 => absurd (hE.2.2.2.2.2.2.2.2.2.2.2.2.2.2.2.2.2.2 q h2) (by omega)⟩
  have hini : Cond.initialized RX6 ∈ gBig := gIn_ok RX6 (by simp [gIn, gIn_1, RX6])
  refine va_new (ci := 6) (fs := [.int 0, .int 0, .null, .null, .null, .int 0, .long 0, .null, .null, .int 0, .null]) (C := RX6) (T := TX6) (N := 11) ux ub hts (fun w hw => gBig_of (guw_6 w hw) (gug_6 w hw)) tyX6 tyX6_ok hown (hts _ hlnk.1) (hts _ gwi_14) (hts _ hini) hE.1 hS.1.1 hS.1.2.1 hS.2.1 hA rfl (fun j hj => by rcases (show j = 0 ∨ j = 1 ∨ j = 2 ∨ j = 3 ∨ j = 4 ∨ j = 5 ∨ j = 6 ∨ j = 7 ∨ j = 8 ∨ j = 9 ∨ j = 10 by omega) with rfl | rfl | rfl | rfl | rfl | rfl | rfl | rfl | rfl | rfl | rfl <;> rfl) (by show c + 1 ≤ hmc y; omega) (by show w + 11 ≤ hms y; omega) d0 (fun q H1 hP hD hS1 => ?_)
  refine lv_dup ux ub d3 rfl ?_
  have hP1 : va_P (gD E) vwCl [(q, .inr (6, [.int 0, .int 0, .null, .null, .null, .int 0, .long 0, .null, .null, .int 0, .null]))] H1 := hP.sub [(gws E ad I J B).length] (by simp)
  have hFc := va_free (wc := [(q, .inr (6, [.int 0, .int 0, .null, .null, .null, .int 0, .long 0, .null, .null, .int 0, .null]))]) hD hS1 hA [(gws E ad I J B).length] (by simp)
  have cw : va_CN (hrm y) s args (hy y).cls ic yX6_init "ToeplitzLab" cX6_init 1 none (Cond.code yX6_init cX6_init 1 none :: gBig) ({ frames := 1, cells := 6, slots := 131, locals := 12 }) 6 131 0 :=
    va_cnB 0 hts (gGood_code gwi_15) rfl rfl rfl (hE.2.1 _ hlnk.2) (hts _ hini) (by decide +kernel) ⟨by show 1 + 1 ≤ hfr y; omega, by show 8 + (1 + 11) + 12 ≤ hlo y; omega⟩
  have hvs : ((.ref q :: st.map (gcv ad)).map fun v => v.category).sum ≤ 8 := by
    rw [List.map_cons, List.sum_cons, gsum_cv]
    show 1 + gsum st ≤ 8
    omega
  refine va_callv (va_runIN (Ts := gBig) (As := []) (rest := .ref q :: st.map (gcv ad)) ⟨ux, ub, uml, hown, hts⟩ (gi_6 (gl E) E q H1.size) ⟨cw, rfl, hts _ gwi_16⟩ ⟨fun a U g mk z => by obtain ⟨q0, q1, qP, qK⟩ := z; exact ⟨q0, q1, qP, va_K.moved (u := U) (U := U.calling g mk a) (Vm.Alike.refl U.vm) qK⟩, fun U hU hW => ⟨rfl, by rw [hU], by rw [hU]; exact hP1, va_K.moved hW.alike hE.1⟩⟩ rfl rfl hS.2.2.1.1 rfl (lv_room hvs) d4 ⟨by show c + 1 + 6 ≤ hmc y; omega, by show w + 11 + 131 ≤ hms y; omega⟩) hS1 (fun q _ h => hFc q h) hFc (fun f t H2 locs2 ht hvm hw2 hB2 hz2 hk2 hS2 => ?_)
  obtain ⟨hP3, hD3⟩ := hB2
  rw [ht] at hP3
  obtain ⟨hP4, hD4⟩ := va_join (wr := gws E ad I J B) hP hD [(gws E ad I J B).length] (List.range (gws E ad I J B).length) (by simp) (gidx_r _ _) (va_nd_of List.nodup_range) (by
    intro i hi hi2
    rw [List.mem_singleton.mp hi2] at hi
    exact absurd (List.mem_range.mp hi) (by omega)) hk2 hFc hP3 hD3
  have hR := gRep.new hP4 hD4 hS.1.2.2.1 hS.1.2.2.2 h3 h12 hB
  have hle : gLe B (gUB B m) := fun n hn => by
    unfold gUB
    split
    · rfl
    · exact hn
  have hvl : ∀ r, gVl B r → gVl (gUB B m) r ∧ gadN ad m q f r = ad r := by
    intro r hr
    rcases hr with rfl | hr | hr | hr
    · exact ⟨Or.inl rfl, gadN_k (Or.inr (by decide))⟩
    · exact ⟨Or.inr (Or.inl hr), gadN_k (Or.inr (by omega))⟩
    · exact ⟨Or.inr (Or.inr (Or.inl hr)), gadN_k (Or.inr (by omega))⟩
    · exact ⟨Or.inr (Or.inr (Or.inr (gids_le hle hr))), gadN_n (gids_nm hr h3 hB)⟩
  have hvv : ∀ v : gV, gVv B v → gVv (gUB B m) v ∧ gcv (gadN ad m q f) v = gcv ad v := by
    intro v hv
    cases v with
    | inl z => exact ⟨trivial, rfl⟩
    | inr r => exact ⟨(hvl r hv).1, congrArg Value.ref (hvl r hv).2⟩
  have e1 : st.map (gcv ad) = st.map (gcv (gadN ad m q f)) := List.map_congr_left fun v hv => ((hvv v (hS.2.2.2.2.2.2 v hv)).2).symm
  have e2 : ls.map (gcp ad) = ls.map (gcp (gadN ad m q f)) := List.map_congr_left fun v hv => by
    unfold gcp
    rw [(hvv v.2 (hS.2.2.2.2.2.1 v hv)).2]
  have e3 : gadN ad m q f (6, m, 0) = q := by
    unfold gadN
    rw [if_pos ⟨Nat.le_of_ble_eq_true rfl, Nat.le_of_ble_eq_true rfl, rfl, rfl⟩, if_pos rfl]
  have kk := hk (by omega) (by omega) p e s mm args below meth cc ad0 Bs hC hT H2 locs2 LS (gadN ad m q f) ⟨hR, hS2, by rw [← e2]; exact hS.2.2.1, fun r hr => ?_, fun n hn => hle n (hS.2.2.2.2.1 n hn), fun z hz => (hvv z.2 (hS.2.2.2.2.2.1 z hz)).1, fun v hv => ?_⟩
  · rw [List.map_cons] at kk
    rw [← e1, show gcv (gadN ad m q f) (.inr (6, m, 0)) = .ref q from congrArg Value.ref e3] at kk
    exact kk
  · have h1 : gVl B r := by
      rcases hr with h | h | h | h
      · exact Or.inl h
      · exact Or.inr (Or.inl h)
      · exact Or.inr (Or.inr (Or.inl h))
      · exact Or.inr (Or.inr (Or.inr (gids_le hS.2.2.2.2.1 h)))
    rw [(hvl r h1).2]
    exact hS.2.2.2.1 r hr
  · rcases List.mem_cons.mp hv with rfl | hv
    · exact Or.inr (Or.inr (Or.inr (gids_st h12 (if_pos rfl))))
    · exact (hvv v (hS.2.2.2.2.2.2 v hv)).1
end
