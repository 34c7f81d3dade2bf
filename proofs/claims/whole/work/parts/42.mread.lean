/-! the reference: poems that are read -/
def shrL (v x : Int) : Int := (iL v >>> ((iI x).toInt64 &&& 63)).toInt
def shlL (v x : Int) : Int := (iL v <<< ((iI x).toInt64 &&& 63)).toInt
def orL (x y : Int) : Int := (iL x ||| iL y).toInt
theorem shrL_eq (v x : Int) : iL v >>> ((iI x).toInt64 &&& 63) = iL (shrL v x) := (Int64.ofInt_toInt _).symm
theorem shlL_eq (v x : Int) : iL v <<< ((iI x).toInt64 &&& 63) = iL (shlL v x) := (Int64.ofInt_toInt _).symm
theorem orL_eq (x y : Int) : iL x ||| iL y = iL (orL x y) := (Int64.ofInt_toInt _).symm
section QBT
variable {p : Program} {l : Launch} {e : Env} {R : Room} {s : State} {m : MethodId} {args : Array Value} {below : List Frame} {meth : Method} {c : Code} {Qf : State → Prop} {w : WP} {k n nL pc : Nat} {lv : List (Nat × Value)} {st : List Value} {F : FF} {cc : ByteArray} {own : String} {ret : Option FieldType}
theorem q_lshr (C : Cx p s m args meth c cc own ret nL w) {x y : Int} (z : Int) (hz : iL x >>> ((iI y).toInt64 &&& 63) = iL z) (d : decode cc pc = .ok (.lshr, 1)) (kk : Wq p l e R s m args below meth c Qf w k n nL (pc + 1) lv (.long (iL z) :: st) F) : Wq p l e R s m args below meth c Qf w k n nL pc lv (.int (iI y) :: .long (iL x) :: st) F :=
  fun H locs ls hH hS hl => lv_lshr C.1 C.2.1 d hz (kk H locs ls hH hS hl)
theorem q_lshl (C : Cx p s m args meth c cc own ret nL w) {x y : Int} (z : Int) (hz : iL x <<< ((iI y).toInt64 &&& 63) = iL z) (d : decode cc pc = .ok (.lshl, 1)) (kk : Wq p l e R s m args below meth c Qf w k n nL (pc + 1) lv (.long (iL z) :: st) F) : Wq p l e R s m args below meth c Qf w k n nL pc lv (.int (iI y) :: .long (iL x) :: st) F :=
  fun H locs ls hH hS hl => lv_lshl C.1 C.2.1 d hz (kk H locs ls hH hS hl)
theorem q_land (C : Cx p s m args meth c cc own ret nL w) {x y : Int} (z : Int) (hz : iL x &&& iL y = iL z) (d : decode cc pc = .ok (.land, 1)) (kk : Wq p l e R s m args below meth c Qf w k n nL (pc + 1) lv (.long (iL z) :: st) F) : Wq p l e R s m args below meth c Qf w k n nL pc lv (.long (iL y) :: .long (iL x) :: st) F :=
  fun H locs ls hH hS hl => lv_land C.1 C.2.1 d (by rw [hz]; exact kk H locs ls hH hS hl)
theorem q_lor (C : Cx p s m args meth c cc own ret nL w) {x y : Int} (z : Int) (hz : iL x ||| iL y = iL z) (d : decode cc pc = .ok (.lor, 1)) (kk : Wq p l e R s m args below meth c Qf w k n nL (pc + 1) lv (.long (iL z) :: st) F) : Wq p l e R s m args below meth c Qf w k n nL pc lv (.long (iL y) :: .long (iL x) :: st) F :=
  fun H locs ls hH hS hl => lv_lor C.1 C.2.1 d (by rw [hz]; exact kk H locs ls hH hS hl)
end QBT
def bitv (v x : Int) : Int := if (iL v).toBitVec.getLsbD x.toNat = true then 1 else 0
theorem bitv_range (v x : Int) : 0 ≤ bitv v x ∧ bitv v x ≤ 1 := by unfold bitv; split <;> omega
theorem land1 (a : Int64) : a &&& iL 1 = iL (if a.toBitVec.getLsbD 0 = true then 1 else 0) := by
  apply Int64.toBitVec_inj.mp
  rw [Int64.toBitVec_and]
  show a.toBitVec &&& 1#64 = _
  rw [BitVec.and_one_eq_setWidth_ofBool_getLsbD]
  cases a.toBitVec.getLsbD 0 <;> rfl
theorem s63N : ∀ n ∈ List.range 64, (((iI (n : Int)).toInt64 &&& 63).toBitVec.smod 64).toNat = n := by decide +kernel
theorem s63 {x : Int} (h : 0 ≤ x ∧ x < 64) : (((iI x).toInt64 &&& 63).toBitVec.smod 64).toNat = x.toNat := by
  have := s63N x.toNat (List.mem_range.mpr (by omega))
  rw [Int.toNat_of_nonneg h.1] at this
  exact this
theorem bit_shr {v x : Int} (hx : 0 ≤ x ∧ x < 64) : (iL v >>> ((iI x).toInt64 &&& 63)).toBitVec.getLsbD 0 = (iL v).toBitVec.getLsbD x.toNat := by
  rw [Int64.toBitVec_shiftRight]
  show ((iL v).toBitVec.sshiftRight (((iI x).toInt64 &&& 63).toBitVec.smod 64).toNat).getLsbD 0 = _
  rw [s63 hx, BitVec.getLsbD_sshiftRight]
  simp [show x.toNat < 64 by omega]
theorem bit_land {v x : Int} (hx : 0 ≤ x ∧ x < 64) : iL (shrL v x) &&& iL 1 = iL (bitv v x) := by
  rw [← shrL_eq, land1, bit_shr hx]; rfl
theorem shl1N : ∀ n ∈ List.range 64, (iL 1 <<< ((iI (n : Int)).toInt64 &&& 63)).toBitVec = BitVec.twoPow 64 n := by decide +kernel
theorem shl1 {x : Int} (h : 0 ≤ x ∧ x < 64) : (iL 1 <<< ((iI x).toInt64 &&& 63)).toBitVec = BitVec.twoPow 64 x.toNat := by
  have := shl1N x.toNat (List.mem_range.mpr (by omega))
  rw [Int.toNat_of_nonneg h.1] at this
  exact this
theorem bitv_or {v x y : Int} (hx : 0 ≤ x ∧ x < 40) (hy : 0 ≤ y ∧ y < 40) : bitv (orL v (shlL 1 x)) y = if y = x then 1 else bitv v y := by
  unfold bitv
  rw [← orL_eq, ← shlL_eq, Int64.toBitVec_or, BitVec.getLsbD_or, shl1 ⟨by omega, by omega⟩, BitVec.getLsbD_twoPow]
  by_cases e : y = x
  · rw [if_pos e, e]
    simp [show x.toNat < 64 by omega]
  · rw [if_neg e]
    simp [show ¬ x.toNat = y.toNat by omega]
def SB (v : Int) (s : RS) : Prop := ∀ x, 0 ≤ x → x < 40 → bitv v x = s.T x
theorem SB_0 : SB 0 rs0 := by
  intro x a c
  unfold bitv
  have e : (iL 0).toBitVec.getLsbD x.toNat = false := by show (0#64).getLsbD _ = false; exact BitVec.getLsbD_zero
  rw [e]; rfl
def dga (B : Int → Int) (n i : Int) : Int := if i < n ∧ 48 ≤ B i ∧ B i ≤ 57 then B i - 48 else -1
theorem dga_cases (B : Int → Int) (n i : Int) : (dga B n i = -1 ∧ ¬ (i < n ∧ 48 ≤ B i ∧ B i ≤ 57)) ∨ (i < n ∧ 48 ≤ B i ∧ B i ≤ 57 ∧ dga B n i = B i - 48) := by
  unfold dga
  by_cases h : i < n ∧ 48 ≤ B i ∧ B i ≤ 57
  · rw [if_pos h]; right; exact ⟨h.1, h.2.1, h.2.2, rfl⟩
  · rw [if_neg h]; left; exact ⟨rfl, h⟩
def cbk (s : RS) (d k : Int) : Prop := fr s d ∨ an (fun k => decide (fr s (10 * d + k))) k = true
theorem cb_0 {s : RS} {d t : Int} (hd : 0 ≤ d ∧ d < 10) (h : t = 1 ∧ s.T d = 0 ∨ t = 0 ∧ ¬ s.T d = 0) : t = 1 ∧ cbk s d (10 * d - 10 * d) ∨ t = 0 ∧ ¬ cbk s d (10 * d - 10 * d) := by
  rw [show 10 * d - 10 * d = 0 by omega]
  unfold cbk
  rw [an_0]
  rcases h with ⟨a, b⟩ | ⟨a, b⟩
  · left; exact ⟨a, Or.inl ⟨by omega, by omega, b⟩⟩
  · right; exact ⟨a, fun g => by rcases g with g | g; exact b g.2.2; cases g⟩
theorem cb_s {s : RS} {d n t t' : Int} (hn : 0 ≤ n ∧ n < 40) (hn0 : 10 * d ≤ n) (h : t = 1 ∧ cbk s d (n - 10 * d) ∨ t = 0 ∧ ¬ cbk s d (n - 10 * d)) (h2 : t' = 1 ∧ (t ≠ 0 ∨ s.T n = 0) ∨ t' = 0 ∧ t = 0 ∧ ¬ s.T n = 0) : t' = 1 ∧ cbk s d (n + 1 - 10 * d) ∨ t' = 0 ∧ ¬ cbk s d (n + 1 - 10 * d) := by
  have e : cbk s d (n + 1 - 10 * d) ↔ cbk s d (n - 10 * d) ∨ fr s n := by
    unfold cbk
    rw [show n + 1 - 10 * d = (n - 10 * d) + 1 by omega, an_s (by omega), show 10 * d + (n - 10 * d) = n by omega, Bool.or_eq_true, decide_eq_true_iff]
    exact or_assoc.symm
  rw [e]
  rcases h2 with ⟨a, b⟩ | ⟨a, b, c⟩
  · left
    refine ⟨a, ?_⟩
    rcases b with b | b
    · rcases h with h | h
      · exact Or.inl h.2
      · exact absurd h.1 b
    · exact Or.inr ⟨hn.1, hn.2, b⟩
  · right
    refine ⟨a, fun g => ?_⟩
    rcases g with g | g
    · rcases h with h | h
      · exact absurd (h.1.symm.trans b) (by decide)
      · exact h.2 g
    · exact c g.2.2
theorem cb_e {s : RS} {d n t : Int} (hd : 0 ≤ d ∧ d < 10) (h : t = 1 ∧ cbk s d (n - 10 * d) ∨ t = 0 ∧ ¬ cbk s d (n - 10 * d)) (hn : n = 10 * d + 10 ∧ 1 ≤ d ∧ d ≤ 3 ∨ n = 10 * d ∧ ¬ (1 ≤ d ∧ d ≤ 3)) : t = 1 ∧ cb s d ∨ t = 0 ∧ ¬ cb s d := by
  have e : cb s d ↔ cbk s d (n - 10 * d) := by
    unfold cb cbk
    rcases hn with ⟨a, b, c⟩ | ⟨a, b⟩
    · rw [show n - 10 * d = 10 by omega]
      exact ⟨fun g => g.elim Or.inl (fun g => Or.inr g.2), fun g => g.elim Or.inl (fun g => Or.inr ⟨by omega, g⟩)⟩
    · rw [show n - 10 * d = 0 by omega, an_0]
      refine ⟨fun g => g.elim Or.inl (fun g => ?_), fun g => g.elim Or.inl (fun g => by cases g)⟩
      obtain ⟨g1, g2⟩ := g
      obtain ⟨i, i0, i1, hi⟩ := an_iff.mp g2
      have := (of_decide_eq_true hi).2.1
      omega
  rw [e]; exact h
def FrN (F F' : FF) : Prop := (∀ k, k ≠ 110 → F' k = F k) ∧ ∀ i, i ≠ 9 → F' 110 i = F 110 i
theorem FrN.refl {F : FF} : FrN F F := ⟨fun _ _ => rfl, fun _ _ => rfl⟩
theorem FrN.f {F G : FF} {z : Int} (h : FrN F G) : FrN F (up G 110 9 z) := ⟨fun k a => by rw [up_k a]; exact h.1 k a, fun i a => by rw [up_j a]; exact h.2 i a⟩
theorem MJ.fn {F G G' : FF} {A : AS} {t : Int} (h : MJ F G A t) (hf : FrN G G') : MJ F G' A t :=
  ⟨h.1.of (by rw [hf.1 111 (by decide)]; exact h.1.r) (hf.2 2 (by decide)) (hf.2 7 (by decide)) (hf.1 112 (by decide)) (hf.1 113 (by decide)) (hf.1 114 (by decide)) (hf.1 116 (by decide)), fun k q => (hf.1 k (by omega)).trans (h.2.1 k q), (hf.2 8 (by decide)).trans h.2.2⟩
theorem MJ.cmp {F G H : FF} {A B : AS} {t : Int} (h : MJ F G A t) (h2 : MJ G H B (G 110 8)) : MJ F H B t := ⟨h2.1, fun k q => (h2.2.1 k q).trans (h.2.1 k q), h2.2.2.trans h.2.2⟩
theorem stp_not {s : RS} {c : Int} (h : ¬ (48 ≤ c ∧ c ≤ 57)) (hf : ¬ fr s s.n) : stp s c = none := by
  unfold stp
  rw [if_neg h]
  by_cases a : c = 44
  · rw [if_pos a, if_neg (fun g => hf g.2)]
  · rw [if_neg a, if_neg (fun g => hf g.2.2)]
theorem dg_big {s : RS} {d : Int} (h : s.n ≠ -1) (h2 : s.n = 0 ∨ 4 ≤ s.n) (hd : 0 ≤ d) : dg s d = none := by
  unfold dg
  rw [if_neg h, if_neg (fun g => ?_)]
  have g1 := g.1
  have g2 := g.2.2.1
  omega
section RNS
variable {B : Int → Int} {n i : Int} {s : RS}
theorem rn_a (hn : s.n = -1) (h : ¬ (48 ≤ B i ∧ B i ≤ 57)) : stp s (B i) = none := stp_not h (by rw [hn]; exact fun g => absurd g.1 (by decide))
theorem rn_b (hn : s.n = -1) (h : 48 ≤ B i ∧ B i ≤ 57) (e : dga B n i = B i - 48) (hc : ¬ cb s (dga B n i)) : stp s (B i) = none := by
  unfold stp dg
  rw [if_pos h, if_pos hn, if_neg (by rw [← e]; exact hc)]
theorem rn_s (hn : s.n = -1) (h : 48 ≤ B i ∧ B i ≤ 57) (e : dga B n i = B i - 48) (hc : cb s (dga B n i)) : stp s (B i) = some (wNum s (dga B n i)) := by
  unfold stp dg
  rw [if_pos h, if_pos hn, if_pos (by rw [← e]; exact hc), ← e]
theorem rn_c1 {D c : Int} (hD : 0 ≤ D ∧ D < 10) (hf : ¬ fr s D) (hc : 48 ≤ c ∧ c ≤ 57 → ¬ (1 ≤ D ∧ D ≤ 3)) : stp (wNum s D) c = none := by
  by_cases h : 48 ≤ c ∧ c ≤ 57
  · unfold stp
    rw [if_pos h]
    have := hc h
    exact dg_big (by show D ≠ -1; omega) (by show D = 0 ∨ 4 ≤ D; omega) (by omega)
  · exact stp_not h hf
theorem rn_c2 {D c : Int} (hD : 0 ≤ D ∧ D < 10) (hc : 48 ≤ c ∧ c ≤ 57 → ¬ (1 ≤ D ∧ D ≤ 3)) (h0 : 48 ≤ c) (h1 : c ≤ 57) : stp (wNum s D) c = none := by
  unfold stp
  rw [if_pos ⟨h0, h1⟩]
  have := hc ⟨h0, h1⟩
  exact dg_big (by show D ≠ -1; omega) (by show D = 0 ∨ 4 ≤ D; omega) (by omega)
theorem rn_d {D E c : Int} (hD : 1 ≤ D ∧ D ≤ 3) (h : 48 ≤ c ∧ c ≤ 57) (e : E = c - 48) (hf : ¬ fr s (10 * D + E)) : stp (wNum s D) c = none := by
  unfold stp dg
  rw [if_pos h, if_neg (by show ¬ D = -1; omega), if_neg (fun g => hf (by rw [e]; exact g.2))]
theorem rn_e {D E c : Int} (hD : 1 ≤ D ∧ D ≤ 3) (h : 48 ≤ c ∧ c ≤ 57) (e : E = c - 48) (hf : s.T (10 * D + E) = 0) : stp (wNum s D) c = some (wNum s (10 * D + E)) := by
  unfold stp dg
  rw [if_pos h, if_neg (by show ¬ D = -1; omega), if_pos ⟨by show D ≠ 0; omega, by rw [← e]; exact ⟨by show 0 ≤ 10 * D + E; omega, by show 10 * D + E < 40; omega, hf⟩⟩, ← e]
  rfl
theorem rn_f {x c : Int} (hx : 10 ≤ x) (h0 : 48 ≤ c) (h1 : c ≤ 57) : stp (wNum s x) c = none := by
  unfold stp
  rw [if_pos ⟨h0, h1⟩]
  exact dg_big (by show x ≠ -1; omega) (by show x = 0 ∨ 4 ≤ x; omega) (by omega)
theorem rp_44 {z c : Int} (hc : c = 44) (ho : s.o < 5) (hf : fr s z) : stp (wNum s z) c = some (clo (wNum s z)) := by
  unfold stp
  rw [if_neg (by omega), if_pos hc, if_pos ⟨ho, hf⟩]
theorem rp_47 {z c : Int} (hc : c = 47) (hl : s.l < 3) (hf : fr s z) : stp (wNum s z) c = some (wLin (clo (wNum s z))) := by
  unfold stp
  rw [if_neg (by omega), if_neg (by omega), if_pos ⟨hc, hl, hf⟩]
theorem rp_none {z c : Int} {P : Prop} (hd : P → 48 ≤ c → c ≤ 57 → stp (wNum s z) c = none) (hP : P) (h1 : ¬ (c = 44 ∧ s.o < 5)) (h2 : ¬ (c = 47 ∧ s.l < 3)) : stp (wNum s z) c = none := by
  by_cases h : 48 ≤ c ∧ c ≤ 57
  · exact hd hP h.1 h.2
  · unfold stp
    rw [if_neg h]
    by_cases a : c = 44
    · rw [if_pos a, if_neg (fun g => h1 ⟨a, g.1⟩)]
    · rw [if_neg a, if_neg (fun g => h2 ⟨g.1, g.2.1⟩)]
theorem stp_v9 {z : Int} (h : RV s) (hf : fr s z) : RV (wNum s z) := by
  obtain ⟨h1, h2, h3, h4, h5, h6, h7⟩ := h
  have e1 := hf.1
  have e2 := hf.2.1
  exact ⟨h1, h2, h3, h4, ⟨by show -1 ≤ z; omega, e2⟩, h6, h7⟩
end RNS
def PD (F : FF) (s : RS) : Prop := F 110 11 = s.f ∧ (0 ≤ s.f ∧ s.f ≤ 24) ∧ ∀ j, 0 ≤ j → j < s.f → (F 117 j = s.W j ∧ F 118 j = s.L j) ∧ (0 ≤ s.W j ∧ s.W j < 40) ∧ (0 ≤ s.L j ∧ s.L j ≤ 3)
abbrev rpF (G1 : FF) (s : RS) (z : Int) : FF := up (up (up (up G1 110 10 (orL (G1 110 10) (shlL 1 z))) 117 s.f z) 118 s.f s.l) 110 11 (s.f + 1)
section RPS
variable {G G1 : FF} {s : RS} {z j : Int}
theorem rp_cell (hpd : ∀ j, 0 ≤ j → j < s.f → G 117 j = s.W j ∧ G 118 j = s.L j) (hf : FrN G G1) : ∀ j, 0 ≤ j → j < s.f + 1 → rpF G1 s z 117 j = (if j = s.f then z else s.W j) ∧ rpF G1 s z 118 j = (if j = s.f then s.l else s.L j) := by
  intro j a c
  unfold rpF
  by_cases e : j = s.f
  · rw [if_pos e, if_pos e, e]
    refine ⟨?_, ?_⟩ <;> simp (disch := omega) only [up_k, up_eq]
  · rw [if_neg e, if_neg e]
    refine ⟨?_, ?_⟩
    · simp (disch := omega) only [up_k, up_j]; rw [hf.1 117 (by decide)]; exact (hpd j a (by omega)).1
    · simp (disch := omega) only [up_k, up_j]; rw [hf.1 118 (by decide)]; exact (hpd j a (by omega)).2
theorem rp_pd {y : Int} (hpd : ∀ j, 0 ≤ j → j < s.f → G 117 j = s.W j ∧ G 118 j = s.L j) (hf : FrN G G1) : ∀ j, 0 ≤ j → j < (clo (wNum s z)).f → up (rpF G1 s z) 110 9 y 117 j = (clo (wNum s z)).W j ∧ up (rpF G1 s z) 110 9 y 118 j = (clo (wNum s z)).L j := by
  intro j a c
  rw [up_k (show (117 : Nat) ≠ 110 by decide), up_k (show (118 : Nat) ≠ 110 by decide)]
  exact rp_cell hpd hf j a c
theorem rp_PD (h11 : G1 110 11 = s.f) (hpd : ∀ j, 0 ≤ j → j < s.f → G 117 j = s.W j ∧ G 118 j = s.L j) (hf : FrN G G1) (hz : fr s z) (hV : RV s) : PD (rpF G1 s z) (clo (wNum s z)) := by
  obtain ⟨g1, g2, g3, g4⟩ := clo_w (stp_v9 hV hz) hz
  exact ⟨up_eq, ⟨g1, g2⟩, fun j a c => ⟨rp_cell hpd hf j a c, ⟨(g4 j a c).1, (g4 j a c).2.1⟩, ⟨(g4 j a c).2.2.1, (g4 j a c).2.2.2⟩⟩⟩
theorem rp_sb (hb : SB (G1 110 10) s) (hz : fr s z) {y : Int} : SB (up (rpF G1 s z) 110 9 y 110 10) (clo (wNum s z)) := by
  intro x a c
  unfold rpF
  rw [up_j (by decide), up_j (by decide), up_k (by decide), up_k (by decide), up_eq, bitv_or ⟨hz.1, hz.2.1⟩ ⟨a, c⟩, hb x a c]
  rfl
end RPS
theorem ld_end {S : RS} {d t k n : Int} {r q : Rw} (ht : t = 1 ∧ ldS S d r k.toNat = (q, k) ∧ n = k ∨ t = 0 ∧ ldS S d r S.f.toNat = (q, n)) (hk : t = 1 → k = S.f) : ldS S d r S.f.toNat = (q, n) := by
  rcases ht with ⟨h1, h2, h3⟩ | ⟨_, h2⟩
  · rw [← hk h1, h2, h3]
  · exact h2
theorem pts_0 {r : Rw} : pts r 0 = r := by
  funext j
  unfold pts
  by_cases e : j = 180
  · rw [if_pos e, e, Int.add_zero]
  · rw [if_neg e]
theorem pts_lo {r : Rw} {n j : Int} (h : j ≠ 180) : pts r n j = r j := if_neg h
theorem pts_s {r : Rw} {n : Int} : ru (pts r n) 180 (pts r n 180 + 1) = pts r (n + 1) := by
  funext j
  unfold ru pts
  by_cases e : j = 180
  · rw [if_pos e, if_pos e, if_pos rfl]; omega
  · rw [if_neg e, if_neg e, if_neg e]
theorem pts_iv {r : Rw} {n : Int} (hI : Iv r) : Iv (pts r n) := by
  have e : pts r n = ru r 180 (r 180 + n) := rfl
  rw [e]; exact iv_ru hI (by omega)
theorem home_pts {r : Rw} {n x : Int} (hI : Iv r) : home (pts r n) x = home r x := (iv_same hI (s := pts r n) (fun j _ c => pts_lo (by omega))).1 x
theorem rea_pts {r : Rw} {n x y p : Int} (hI : Iv r) (hy : 0 ≤ y ∧ y < 16) (hp : 0 ≤ p ∧ p ≤ r y) : rea (pts r n) x y p = rea r x y p := by
  have hs := hI.sz hy.1 hy.2
  have e0 : pts r n y = r y := pts_lo (by omega)
  have ew : ∀ q, 0 ≤ q → q ≤ 6 → wa (pts r n) y q = wa r y q := fun q a c => pts_lo (by omega)
  have eb : bo (wa (pts r n) y) (r y) = bo (wa r y) (r y) := bo_cg (fun q a c => ew q a (by omega))
  have ev : ∀ k, 0 ≤ k → k ≤ 6 → ww (pts r n) x y p k = ww r x y p k := by
    intro k a c
    unfold ww
    by_cases g : k < p
    · rw [if_pos g, if_pos g, ew k a c]
    · rw [if_neg g, if_neg g]
      by_cases g2 : k = p
      · rw [if_pos g2, if_pos g2]
      · rw [if_neg g2, if_neg g2, ew (k - 1) (by omega) (by omega)]
  have ea : an (fun k => clb (ww (pts r n) x y p k) (ww (pts r n) x y p (k + 1))) (r y) = an (fun k => clb (ww r x y p k) (ww r x y p (k + 1))) (r y) :=
    an_congr (fun k a c => by show clb _ _ = clb _ _; rw [ev k a (by omega), ev (k + 1) (by omega) (by omega)])
  unfold rea
  rw [e0, eb, ea, pts_lo (by decide)]
theorem ins_pts {r : Rw} {n x y p : Int} (hy : 0 ≤ y ∧ y < 16) (hp : 0 ≤ p ∧ p ≤ r y) (hs : r y < 6) : ins (pts r n) x y p = pts (ins r x y p) n := by
  have e0 : pts r n y = r y := pts_lo (by omega)
  funext j
  by_cases e : j = 180
  · subst e
    have h1 : ins (pts r n) x y p 180 = pts r n 180 := ins_hi hy (by rw [e0]; exact hp) (by rw [e0]; exact hs) (by omega)
    show ins (pts r n) x y p 180 = (if (180 : Int) = 180 then ins r x y p 180 + n else ins r x y p 180)
    rw [h1, if_pos rfl, ins_hi hy hp hs (by omega)]
    exact if_pos rfl
  · rw [pts_lo e]
    unfold ins
    rw [e0, pts_lo e]
    by_cases g : 16 + 6 * y + p < j ∧ j ≤ 16 + 6 * y + r y
    · rw [pts_lo (by omega)]
    · rw [if_neg g, if_neg g]

set_option maxRecDepth 100000 in
set_option maxHeartbeats 4000000 in
theorem k_X4_hasStood (l : Launch) {w : WP} {F : FF} {x : Int} (hx : 0 ≤ x ∧ x < 40) : Con l yX4_hasStood cX4_hasStood 2 (some .boolean) 0 w [.ref (adr w 110), .int (iI x)] F (QI w (fun z F' => (z = 1 ∧ (bitv (F 110 10) x = 1) ∨ z = 0 ∧ ¬ (bitv (F 110 10) x = 1)) ∧ F = F')) := by
  refine Con.mk (lv := [(0, .ref (adr w 110)), (1, .int (iI x))]) (by decide) (Nat.le_of_ble_eq_true rfl) rfl ?_
  intro pg ev s0 mi be me co C hz
  refine q_aload_n C 0 dX4_hasStood_0 rfl ?_
  refine q_get (T := TX4) (i := 10) C kd110 (by decide) rfl uws4 (by decide) wd_875 rfl dX4_hasStood_1 ?_
  refine q_iload_n C 1 dX4_hasStood_4 rfl ?_
  refine q_lshr C (shrL (F 110 10) x) (shrL_eq _ _) dX4_hasStood_5 ?_
  refine q_lconst C 1 rfl dX4_hasStood_6 ?_
  refine q_land C (bitv (F 110 10) x) (bit_land ⟨by omega, by omega⟩) dX4_hasStood_7 ?_
  have hbr := bitv_range (F 110 10) x
  refine q_lconst C 1 rfl dX4_hasStood_8 ?_
  refine q_lcmpz C dX4_hasStood_9 ⟨by omega, by omega⟩ ⟨by omega, by omega⟩ ?_
  have qlz := lcz_range (bitv (F 110 10) x) 1
  have hlz := lcz_eq (x := bitv (F 110 10) x) (y := 1)
  refine q_if_ne C 17 dX4_hasStood_10 ⟨by omega, by omega⟩  (by decide) (fun h10 => ?_) (fun h10 => ?_)
  · refine q_iconst C 0 dX4_hasStood_17 ?_
    refine q_zret C dX4_hasStood_18 (by decide) ?_
    exact ⟨by omega, rfl⟩
  · refine q_iconst C 1 dX4_hasStood_13 ?_
    refine q_goto C 18 dX4_hasStood_14 (by decide) ?_
    refine q_zret C dX4_hasStood_18 (by decide) ?_
    exact ⟨by omega, rfl⟩

set_option maxRecDepth 100000 in
set_option maxHeartbeats 4000000 in
theorem k_X4_digitAt (l : Launch) {w : WP} {F : FF} {A : AS} {q : Int} (hM : MI F A) (hV : AV A) (hq : 0 ≤ q ∧ q ≤ 60) : Con l yX4_digitAt cX4_digitAt 2 (some .int) 1 w [.ref (adr w 110), .int (iI q)] F (QI w (fun z F' => z = dga A.B A.len q ∧ F = F')) := by
  refine Con.mk (lv := [(0, .ref (adr w 110)), (1, .int (iI q))]) (by decide) (Nat.le_of_ble_eq_true rfl) rfl ?_
  intro pg ev s0 mi be me co C hz
  have hr : F 111 = A.r := hM.r
  have hI : Iv A.r := hM.iv
  have hJ := MJ.refl hM
  have hnb := hV.1
  unfold nb at hnb
  have hlr := hM.lr
  have hnr := hM.s.2.1
  refine q_iload_n C 1 dX4_digitAt_0 rfl ?_
  refine q_aload_n C 0 dX4_digitAt_1 rfl ?_
  refine q_get (T := TX4) (i := 7) C kd110 (by decide) rfl uws4 (by decide) wd_872 rfl dX4_digitAt_2 ?_
  refine q_top (z' := A.len) (hJ.1.l) ?_
  refine q_icmp_ge C 36 dX4_digitAt_5 ⟨by omega, by omega⟩ ⟨by omega, by omega⟩ (by decide) (fun h5 => ?_) (fun h5 => ?_)
  · refine q_iconst C (-1) dX4_digitAt_36 ?_
    refine q_iret C dX4_digitAt_37 ?_
    exact ⟨by unfold dga; first | rw [if_pos (by omega)] | rw [if_neg (by omega)], rfl⟩
  · have hBp := hV.2.2.2.2 q (by omega) (by omega)
    refine q_aload_n C 0 dX4_digitAt_8 rfl ?_
    refine q_get (T := TX4) (i := 6) C kd110 (by decide) rfl uws4 (by decide) wd_871 rfl dX4_digitAt_9 ?_
    refine q_iload_n C 1 dX4_digitAt_12 rfl ?_
    refine q_iald C kd116 ⟨by omega, by rw [ln116]; omega⟩ dX4_digitAt_13 ?_
    refine q_top (z' := A.B q) (hJ.1.c (i := q) (by omega) (by omega)) ?_
    refine q_bipush C 48 dX4_digitAt_14 (by decide) ?_
    refine q_bipush C 57 dX4_digitAt_16 (by decide) ?_
    refine q_cI (q_runS (As := [.int (iI (A.B q)), .int (iI 48), .int (iI 57)]) (rest := []) C (k_X4_in l (x := A.B q) (a := 48) (b := 57) ⟨by omega, by omega⟩ ⟨by omega, by omega⟩ ⟨by omega, by omega⟩) wd_930 wd_929 wd_81 wd_928 nd_X4_in rfl (by decide) ⟨Nat.zero_le _, Nat.zero_le _⟩ rfl (Nat.le_of_ble_eq_true rfl) dX4_digitAt_18) ?_
    rintro z F' ⟨⟨rfl, hq18⟩ | ⟨rfl, hq18⟩, rfl⟩
    · refine q_if_eq C 36 dX4_digitAt_21 ⟨by decide, by decide⟩  (by decide) (fun h => absurd h (by decide)) (fun _ => ?_)
      refine q_aload_n C 0 dX4_digitAt_24 rfl ?_
      refine q_get (T := TX4) (i := 6) C kd110 (by decide) rfl uws4 (by decide) wd_871 rfl dX4_digitAt_25 ?_
      refine q_iload_n C 1 dX4_digitAt_28 rfl ?_
      refine q_iald C kd116 ⟨by omega, by rw [ln116]; omega⟩ dX4_digitAt_29 ?_
      refine q_top (z' := A.B q) (hJ.1.c (i := q) (by omega) (by omega)) ?_
      refine q_bipush C 48 dX4_digitAt_30 (by decide) ?_
      refine q_isub C dX4_digitAt_32 ?_
      refine q_goto C 37 dX4_digitAt_33 (by decide) ?_
      refine q_iret C dX4_digitAt_37 ?_
      exact ⟨by unfold dga; first | rw [if_pos (by omega)] | rw [if_neg (by omega)], rfl⟩
    · refine q_if_eq C 36 dX4_digitAt_21 ⟨by decide, by decide⟩  (by decide) (fun _ => ?_) (fun h => absurd h (by decide))
      refine q_iconst C (-1) dX4_digitAt_36 ?_
      refine q_iret C dX4_digitAt_37 ?_
      exact ⟨by unfold dga; first | rw [if_pos (by omega)] | rw [if_neg (by omega)], rfl⟩

set_option maxRecDepth 100000 in
set_option maxHeartbeats 4000000 in
theorem k_X4_canBegin (l : Launch) {w : WP} {F : FF} {s : RS} {d : Int} (hRV : RV s) (hb : SB (F 110 10) s) (hd : 0 ≤ d ∧ d < 10) : Con l yX4_canBegin cX4_canBegin 4 (some .boolean) 1 w [.ref (adr w 110), .int (iI d)] F (QI w (fun z F' => (z = 1 ∧ cb s d ∨ z = 0 ∧ ¬ cb s d) ∧ F = F')) := by
  refine Con.mk (lv := [(0, .ref (adr w 110)), (1, .int (iI d))]) (by decide) (Nat.le_of_ble_eq_true rfl) rfl ?_
  intro pg ev s0 mi be me co C hz
  refine q_aload_n C 0 dX4_canBegin_0 rfl ?_
  refine q_iload_n C 1 dX4_canBegin_1 rfl ?_
  refine q_cI (q_runV (As := [.int (iI d)]) (rest := []) C (k_X4_hasStood (F := F) l (x := d) ⟨by omega, by omega⟩) kd110 (by decide) rfl wd_1119 wd_1118 wd_54 wd_81 wd_1116 nd_X4_hasStood rfl (by decide) ⟨Nat.zero_le _, Nat.zero_le _⟩ rfl (Nat.le_of_ble_eq_true rfl) dX4_canBegin_2) ?_
  rintro z F' ⟨⟨rfl, hs2⟩ | ⟨rfl, hs2⟩, rfl⟩
  · rw [hb d (by omega) (by omega)] at hs2
    have ht2 := hRV.2.2.2.2.2.1 (d) (by omega) (by omega)
    refine q_if_ne C 12 dX4_canBegin_5 ⟨by decide, by decide⟩  (by decide) (fun _ => ?_) (fun h => absurd h (by decide))
    refine q_iconst C 0 dX4_canBegin_12 ?_
    refine q_istore_n (lv' := [(2, .int (iI 0)), (0, .ref (adr w 110)), (1, .int (iI d))]) C dX4_canBegin_13 (by decide) rfl ?_
    refine q_bipush C 10 dX4_canBegin_14 (by decide) ?_
    refine q_iload_n C 2 dX4_canBegin_16 rfl ?_
    refine q_imul C dX4_canBegin_17 ?_
    refine q_istore_n (lv' := [(3, .int (iI (10 * d))), (2, .int (iI 0)), (0, .ref (adr w 110)), (1, .int (iI d))]) C dX4_canBegin_18 (by decide) rfl ?_
    refine q_lv (lv' := [(0, .ref (adr w 110)), (1, .int (iI d)), (2, .int (iI 0)), (3, .int (iI (10 * d)))]) [2, 3, 1, 0] rfl ?_
    refine wf2 (P := fun (n : Int) (t : Int) => Wq pg l ev _ s0 mi _ be me co _ w _ _ _ 19 [(0, .ref (adr w 110)), (1, .int (iI d)), (2, .int (iI t)), (3, .int (iI n))] [] F) (I := fun (n : Int) (t : Int) => 10 * d ≤ n ∧ n ≤ 10 * d + 10 ∧ (n = 10 * d ∨ 1 ≤ d ∧ d ≤ 3) ∧ (t = 1 ∧ cbk s d (n - 10 * d) ∨ t = 0 ∧ ¬ cbk s d (n - 10 * d))) (μ := fun (n : Int) (t : Int) => (10 * d + 10 - n).toNat) ?_ (10 * d) 0 (⟨by omega, by omega, Or.inl rfl, cb_0 hd (by omega)⟩)
    intro n t hI' ih19
    (try dsimp only at hI'); (try dsimp only at ih19); (try dsimp only)
    obtain ⟨hn0, hn1, hn2, ht⟩ := hI'
    refine q_iload_n C 3 dX4_canBegin_19 rfl ?_
    refine q_bipush C 10 dX4_canBegin_20 (by decide) ?_
    refine q_iload_n C 1 dX4_canBegin_22 rfl ?_
    refine q_imul C dX4_canBegin_23 ?_
    refine q_bipush C 10 dX4_canBegin_24 (by decide) ?_
    refine q_iadd C dX4_canBegin_26 ?_
    refine q_icmp_ge C 63 dX4_canBegin_27 ⟨by omega, by omega⟩ ⟨by omega, by omega⟩ (by decide) (fun h27 => ?_) (fun h27 => ?_)
    · refine q_iload_n C 2 dX4_canBegin_63 rfl ?_
      refine q_zret C dX4_canBegin_64 (by omega) ?_
      exact ⟨cb_e hd ht (by omega), rfl⟩
    · refine q_iload_n C 1 dX4_canBegin_30 rfl ?_
      refine q_iconst C 1 dX4_canBegin_31 ?_
      refine q_iconst C 3 dX4_canBegin_32 ?_
      refine q_cI (q_runS (As := [.int (iI d), .int (iI 1), .int (iI 3)]) (rest := []) C (k_X4_in l (x := d) (a := 1) (b := 3) ⟨by omega, by omega⟩ ⟨by omega, by omega⟩ ⟨by omega, by omega⟩) wd_930 wd_929 wd_81 wd_928 nd_X4_in rfl (by decide) ⟨Nat.zero_le _, Nat.zero_le _⟩ rfl (Nat.le_of_ble_eq_true rfl) dX4_canBegin_33) ?_
      rintro z F' ⟨⟨rfl, hq33⟩ | ⟨rfl, hq33⟩, rfl⟩
      · refine q_if_eq C 63 dX4_canBegin_36 ⟨by decide, by decide⟩  (by decide) (fun h => absurd h (by decide)) (fun _ => ?_)
        refine q_iload_n C 2 dX4_canBegin_39 rfl ?_
        refine q_if_ne C 51 dX4_canBegin_40 ⟨by omega, by omega⟩  (by decide) (fun h40 => ?_) (fun h40 => ?_)
        · refine q_iconst C 1 dX4_canBegin_51 ?_
          refine q_goto C 56 dX4_canBegin_52 (by decide) ?_
          refine q_istore_n (lv' := [(2, .int (iI 1)), (0, .ref (adr w 110)), (1, .int (iI d)), (3, .int (iI n))]) C dX4_canBegin_56 (by decide) rfl ?_
          refine q_iinc (lv' := [(3, .int (iI (n + 1))), (2, .int (iI 1)), (0, .ref (adr w 110)), (1, .int (iI d))]) C 3 dX4_canBegin_57 rfl (by decide) rfl ?_
          refine q_goto C 19 dX4_canBegin_60 (by decide) ?_
          refine q_lv (lv' := [(0, .ref (adr w 110)), (1, .int (iI d)), (2, .int (iI 1)), (3, .int (iI (n + 1)))]) [2, 3, 1, 0] rfl ?_
          exact ih19 (n + 1) 1 (⟨by omega, by omega, by omega, cb_s ⟨by omega, by omega⟩ hn0 ht (by omega)⟩) (by omega)
        · refine q_aload_n C 0 dX4_canBegin_43 rfl ?_
          refine q_iload_n C 3 dX4_canBegin_44 rfl ?_
          refine q_cI (q_runV (As := [.int (iI n)]) (rest := []) C (k_X4_hasStood (F := F) l (x := n) ⟨by omega, by omega⟩) kd110 (by decide) rfl wd_1119 wd_1118 wd_54 wd_81 wd_1116 nd_X4_hasStood rfl (by decide) ⟨Nat.zero_le _, Nat.zero_le _⟩ rfl (Nat.le_of_ble_eq_true rfl) dX4_canBegin_45) ?_
          rintro z F' ⟨⟨rfl, hs45⟩ | ⟨rfl, hs45⟩, rfl⟩
          · rw [hb n (by omega) (by omega)] at hs45
            have ht45 := hRV.2.2.2.2.2.1 (n) (by omega) (by omega)
            refine q_if_ne C 55 dX4_canBegin_48 ⟨by decide, by decide⟩  (by decide) (fun _ => ?_) (fun h => absurd h (by decide))
            refine q_iconst C 0 dX4_canBegin_55 ?_
            refine q_istore_n (lv' := [(2, .int (iI 0)), (0, .ref (adr w 110)), (1, .int (iI d)), (3, .int (iI n))]) C dX4_canBegin_56 (by decide) rfl ?_
            refine q_iinc (lv' := [(3, .int (iI (n + 1))), (2, .int (iI 0)), (0, .ref (adr w 110)), (1, .int (iI d))]) C 3 dX4_canBegin_57 rfl (by decide) rfl ?_
            refine q_goto C 19 dX4_canBegin_60 (by decide) ?_
            refine q_lv (lv' := [(0, .ref (adr w 110)), (1, .int (iI d)), (2, .int (iI 0)), (3, .int (iI (n + 1)))]) [2, 3, 1, 0] rfl ?_
            exact ih19 (n + 1) 0 (⟨by omega, by omega, by omega, cb_s ⟨by omega, by omega⟩ hn0 ht (by omega)⟩) (by omega)
          · rw [hb n (by omega) (by omega)] at hs45
            have ht45 := hRV.2.2.2.2.2.1 (n) (by omega) (by omega)
            refine q_if_ne C 55 dX4_canBegin_48 ⟨by decide, by decide⟩  (by decide) (fun h => absurd h (by decide)) (fun _ => ?_)
            refine q_iconst C 1 dX4_canBegin_51 ?_
            refine q_goto C 56 dX4_canBegin_52 (by decide) ?_
            refine q_istore_n (lv' := [(2, .int (iI 1)), (0, .ref (adr w 110)), (1, .int (iI d)), (3, .int (iI n))]) C dX4_canBegin_56 (by decide) rfl ?_
            refine q_iinc (lv' := [(3, .int (iI (n + 1))), (2, .int (iI 1)), (0, .ref (adr w 110)), (1, .int (iI d))]) C 3 dX4_canBegin_57 rfl (by decide) rfl ?_
            refine q_goto C 19 dX4_canBegin_60 (by decide) ?_
            refine q_lv (lv' := [(0, .ref (adr w 110)), (1, .int (iI d)), (2, .int (iI 1)), (3, .int (iI (n + 1)))]) [2, 3, 1, 0] rfl ?_
            exact ih19 (n + 1) 1 (⟨by omega, by omega, by omega, cb_s ⟨by omega, by omega⟩ hn0 ht (by omega)⟩) (by omega)
      · refine q_if_eq C 63 dX4_canBegin_36 ⟨by decide, by decide⟩  (by decide) (fun _ => ?_) (fun h => absurd h (by decide))
        refine q_iload_n C 2 dX4_canBegin_63 rfl ?_
        refine q_zret C dX4_canBegin_64 (by omega) ?_
        exact ⟨cb_e hd ht (by omega), rfl⟩
  · rw [hb d (by omega) (by omega)] at hs2
    have ht2 := hRV.2.2.2.2.2.1 (d) (by omega) (by omega)
    refine q_if_ne C 12 dX4_canBegin_5 ⟨by decide, by decide⟩  (by decide) (fun h => absurd h (by decide)) (fun _ => ?_)
    refine q_iconst C 1 dX4_canBegin_8 ?_
    refine q_goto C 13 dX4_canBegin_9 (by decide) ?_
    refine q_istore_n (lv' := [(2, .int (iI 1)), (0, .ref (adr w 110)), (1, .int (iI d))]) C dX4_canBegin_13 (by decide) rfl ?_
    refine q_bipush C 10 dX4_canBegin_14 (by decide) ?_
    refine q_iload_n C 2 dX4_canBegin_16 rfl ?_
    refine q_imul C dX4_canBegin_17 ?_
    refine q_istore_n (lv' := [(3, .int (iI (10 * d))), (2, .int (iI 1)), (0, .ref (adr w 110)), (1, .int (iI d))]) C dX4_canBegin_18 (by decide) rfl ?_
    refine q_lv (lv' := [(0, .ref (adr w 110)), (1, .int (iI d)), (2, .int (iI 1)), (3, .int (iI (10 * d)))]) [2, 3, 1, 0] rfl ?_
    refine wf2 (P := fun (n : Int) (t : Int) => Wq pg l ev _ s0 mi _ be me co _ w _ _ _ 19 [(0, .ref (adr w 110)), (1, .int (iI d)), (2, .int (iI t)), (3, .int (iI n))] [] F) (I := fun (n : Int) (t : Int) => 10 * d ≤ n ∧ n ≤ 10 * d + 10 ∧ (n = 10 * d ∨ 1 ≤ d ∧ d ≤ 3) ∧ (t = 1 ∧ cbk s d (n - 10 * d) ∨ t = 0 ∧ ¬ cbk s d (n - 10 * d))) (μ := fun (n : Int) (t : Int) => (10 * d + 10 - n).toNat) ?_ (10 * d) 1 (⟨by omega, by omega, Or.inl rfl, cb_0 hd (by omega)⟩)
    intro n t hI' ih19
    (try dsimp only at hI'); (try dsimp only at ih19); (try dsimp only)
    obtain ⟨hn0, hn1, hn2, ht⟩ := hI'
    refine q_iload_n C 3 dX4_canBegin_19 rfl ?_
    refine q_bipush C 10 dX4_canBegin_20 (by decide) ?_
    refine q_iload_n C 1 dX4_canBegin_22 rfl ?_
    refine q_imul C dX4_canBegin_23 ?_
    refine q_bipush C 10 dX4_canBegin_24 (by decide) ?_
    refine q_iadd C dX4_canBegin_26 ?_
    refine q_icmp_ge C 63 dX4_canBegin_27 ⟨by omega, by omega⟩ ⟨by omega, by omega⟩ (by decide) (fun h27 => ?_) (fun h27 => ?_)
    · refine q_iload_n C 2 dX4_canBegin_63 rfl ?_
      refine q_zret C dX4_canBegin_64 (by omega) ?_
      exact ⟨cb_e hd ht (by omega), rfl⟩
    · refine q_iload_n C 1 dX4_canBegin_30 rfl ?_
      refine q_iconst C 1 dX4_canBegin_31 ?_
      refine q_iconst C 3 dX4_canBegin_32 ?_
      refine q_cI (q_runS (As := [.int (iI d), .int (iI 1), .int (iI 3)]) (rest := []) C (k_X4_in l (x := d) (a := 1) (b := 3) ⟨by omega, by omega⟩ ⟨by omega, by omega⟩ ⟨by omega, by omega⟩) wd_930 wd_929 wd_81 wd_928 nd_X4_in rfl (by decide) ⟨Nat.zero_le _, Nat.zero_le _⟩ rfl (Nat.le_of_ble_eq_true rfl) dX4_canBegin_33) ?_
      rintro z F' ⟨⟨rfl, hq33⟩ | ⟨rfl, hq33⟩, rfl⟩
      · refine q_if_eq C 63 dX4_canBegin_36 ⟨by decide, by decide⟩  (by decide) (fun h => absurd h (by decide)) (fun _ => ?_)
        refine q_iload_n C 2 dX4_canBegin_39 rfl ?_
        refine q_if_ne C 51 dX4_canBegin_40 ⟨by omega, by omega⟩  (by decide) (fun h40 => ?_) (fun h40 => ?_)
        · refine q_iconst C 1 dX4_canBegin_51 ?_
          refine q_goto C 56 dX4_canBegin_52 (by decide) ?_
          refine q_istore_n (lv' := [(2, .int (iI 1)), (0, .ref (adr w 110)), (1, .int (iI d)), (3, .int (iI n))]) C dX4_canBegin_56 (by decide) rfl ?_
          refine q_iinc (lv' := [(3, .int (iI (n + 1))), (2, .int (iI 1)), (0, .ref (adr w 110)), (1, .int (iI d))]) C 3 dX4_canBegin_57 rfl (by decide) rfl ?_
          refine q_goto C 19 dX4_canBegin_60 (by decide) ?_
          refine q_lv (lv' := [(0, .ref (adr w 110)), (1, .int (iI d)), (2, .int (iI 1)), (3, .int (iI (n + 1)))]) [2, 3, 1, 0] rfl ?_
          exact ih19 (n + 1) 1 (⟨by omega, by omega, by omega, cb_s ⟨by omega, by omega⟩ hn0 ht (by omega)⟩) (by omega)
        · refine q_aload_n C 0 dX4_canBegin_43 rfl ?_
          refine q_iload_n C 3 dX4_canBegin_44 rfl ?_
          refine q_cI (q_runV (As := [.int (iI n)]) (rest := []) C (k_X4_hasStood (F := F) l (x := n) ⟨by omega, by omega⟩) kd110 (by decide) rfl wd_1119 wd_1118 wd_54 wd_81 wd_1116 nd_X4_hasStood rfl (by decide) ⟨Nat.zero_le _, Nat.zero_le _⟩ rfl (Nat.le_of_ble_eq_true rfl) dX4_canBegin_45) ?_
          rintro z F' ⟨⟨rfl, hs45⟩ | ⟨rfl, hs45⟩, rfl⟩
          · rw [hb n (by omega) (by omega)] at hs45
            have ht45 := hRV.2.2.2.2.2.1 (n) (by omega) (by omega)
            refine q_if_ne C 55 dX4_canBegin_48 ⟨by decide, by decide⟩  (by decide) (fun _ => ?_) (fun h => absurd h (by decide))
            refine q_iconst C 0 dX4_canBegin_55 ?_
            refine q_istore_n (lv' := [(2, .int (iI 0)), (0, .ref (adr w 110)), (1, .int (iI d)), (3, .int (iI n))]) C dX4_canBegin_56 (by decide) rfl ?_
            refine q_iinc (lv' := [(3, .int (iI (n + 1))), (2, .int (iI 0)), (0, .ref (adr w 110)), (1, .int (iI d))]) C 3 dX4_canBegin_57 rfl (by decide) rfl ?_
            refine q_goto C 19 dX4_canBegin_60 (by decide) ?_
            refine q_lv (lv' := [(0, .ref (adr w 110)), (1, .int (iI d)), (2, .int (iI 0)), (3, .int (iI (n + 1)))]) [2, 3, 1, 0] rfl ?_
            exact ih19 (n + 1) 0 (⟨by omega, by omega, by omega, cb_s ⟨by omega, by omega⟩ hn0 ht (by omega)⟩) (by omega)
          · rw [hb n (by omega) (by omega)] at hs45
            have ht45 := hRV.2.2.2.2.2.1 (n) (by omega) (by omega)
            refine q_if_ne C 55 dX4_canBegin_48 ⟨by decide, by decide⟩  (by decide) (fun h => absurd h (by decide)) (fun _ => ?_)
            refine q_iconst C 1 dX4_canBegin_51 ?_
            refine q_goto C 56 dX4_canBegin_52 (by decide) ?_
            refine q_istore_n (lv' := [(2, .int (iI 1)), (0, .ref (adr w 110)), (1, .int (iI d)), (3, .int (iI n))]) C dX4_canBegin_56 (by decide) rfl ?_
            refine q_iinc (lv' := [(3, .int (iI (n + 1))), (2, .int (iI 1)), (0, .ref (adr w 110)), (1, .int (iI d))]) C 3 dX4_canBegin_57 rfl (by decide) rfl ?_
            refine q_goto C 19 dX4_canBegin_60 (by decide) ?_
            refine q_lv (lv' := [(0, .ref (adr w 110)), (1, .int (iI d)), (2, .int (iI 1)), (3, .int (iI (n + 1)))]) [2, 3, 1, 0] rfl ?_
            exact ih19 (n + 1) 1 (⟨by omega, by omega, by omega, cb_s ⟨by omega, by omega⟩ hn0 ht (by omega)⟩) (by omega)
      · refine q_if_eq C 63 dX4_canBegin_36 ⟨by decide, by decide⟩  (by decide) (fun _ => ?_) (fun h => absurd h (by decide))
        refine q_iload_n C 2 dX4_canBegin_63 rfl ?_
        refine q_zret C dX4_canBegin_64 (by omega) ?_
        exact ⟨cb_e hd ht (by omega), rfl⟩

set_option maxRecDepth 100000 in
set_option maxHeartbeats 4000000 in
theorem k_X4_readNumber (l : Launch) {w : WP} {F : FF} {A : AS} {s : RS} {i : Int} (hM : MI F A) (hV : AV A) (hRV : RV s) (hb : SB (F 110 10) s) (h9 : F 110 9 = i) (hi : 0 ≤ i ∧ i ≤ A.len) (hrd : rdp A.B i.toNat = some s) (hn : s.n = -1) : Con l yX4_readNumber cX4_readNumber 3 (some .int) 2 w [.ref (adr w 110)] F (QI w (fun z F' => ∃ j s', F' 110 9 = j ∧ FrN F F' ∧ i ≤ j ∧ j ≤ A.len ∧ rdp A.B j.toNat = some s' ∧ (z = -1 ∧ (j < A.len → stp s' (A.B j) = none) ∧ (j = A.len → ¬ fr s' s'.n) ∨ s' = wNum s z ∧ fr s z ∧ i < j ∧ (j < A.len → 48 ≤ A.B j → A.B j ≤ 57 → stp s' (A.B j) = none)))) := by
  refine Con.mk (lv := [(0, .ref (adr w 110))]) (by decide) (Nat.le_of_ble_eq_true rfl) rfl ?_
  intro pg ev s0 mi be me co C hz
  have hr : F 111 = A.r := hM.r
  have hI : Iv A.r := hM.iv
  have hJ := MJ.refl hM
  have hnb := hV.1
  unfold nb at hnb
  have hlr := hM.lr
  have hnr := hM.s.2.1
  refine q_aload_n C 0 dX4_readNumber_0 rfl ?_
  refine q_aload_n C 0 dX4_readNumber_1 rfl ?_
  refine q_get (T := TX4) (i := 9) C kd110 (by decide) rfl uws4 (by decide) wd_874 rfl dX4_readNumber_2 ?_
  refine q_top (z' := i) (h9) ?_
  refine q_cI (q_runV (As := [.int (iI i)]) (rest := []) C (k_X4_digitAt (F := F) l hJ.1 hV (q := i) ⟨by omega, by omega⟩) kd110 (by decide) rfl wd_1111 wd_1110 wd_52 wd_81 wd_1108 nd_X4_digitAt rfl (by decide) ⟨Nat.zero_le _, Nat.zero_le _⟩ rfl (Nat.le_of_ble_eq_true rfl) dX4_readNumber_5) ?_
  rintro z F' ⟨rfl, rfl⟩
  have qd5 := dga_cases A.B A.len (i)
  refine q_istore_n (lv' := [(1, .int (iI (dga A.B A.len (i)))), (0, .ref (adr w 110))]) C dX4_readNumber_8 (by decide) rfl ?_
  refine q_iload_n C 0 dX4_readNumber_9 rfl ?_
  refine q_iconst C (-1) dX4_readNumber_10 ?_
  refine q_icmp_eq C 22 dX4_readNumber_11 ⟨by omega, by omega⟩ ⟨by decide, by decide⟩ (by decide) (fun h11 => ?_) (fun h11 => ?_)
  · refine q_iconst C (-1) dX4_readNumber_22 ?_
    refine q_iret C dX4_readNumber_23 ?_
    first | exact ⟨i, s, h9, FrN.refl, by omega, by omega, hrd, Or.inl ⟨rfl, fun q => rn_b hn (by omega) (by omega) hcb16, fun _ => by rw [hn]; exact fun g => absurd g.1 (by decide)⟩⟩ | exact ⟨i, s, h9, FrN.refl, by omega, by omega, hrd, Or.inl ⟨rfl, fun q => rn_a hn (by omega), fun _ => by rw [hn]; exact fun g => absurd g.1 (by decide)⟩⟩
  · refine q_aload_n C 1 dX4_readNumber_14 rfl ?_
    refine q_iload_n C 0 dX4_readNumber_15 rfl ?_
    refine q_cI (q_runV (As := [.int (iI (dga A.B A.len (i)))]) (rest := []) C (k_X4_canBegin (F := F) l (d := dga A.B A.len (i)) hRV hb ⟨by omega, by omega⟩) kd110 (by decide) rfl wd_1115 wd_1114 wd_53 wd_81 wd_1112 nd_X4_canBegin rfl (by decide) ⟨Nat.zero_le _, Nat.zero_le _⟩ rfl (Nat.le_of_ble_eq_true rfl) dX4_readNumber_16) ?_
    rintro z F' ⟨⟨rfl, hcb16⟩ | ⟨rfl, hcb16⟩, rfl⟩
    · refine q_if_ne C 24 dX4_readNumber_19 ⟨by decide, by decide⟩  (by decide) (fun _ => ?_) (fun h => absurd h (by decide))
      have hrd1 := rdp_s hi.1 hrd (rn_s hn (by omega) (by omega) hcb16)
      refine q_aload_n C 1 dX4_readNumber_24 rfl ?_
      refine q_dup C dX4_readNumber_25 rfl ?_
      refine q_get (T := TX4) (i := 9) C kd110 (by decide) rfl uws4 (by decide) wd_874 rfl dX4_readNumber_26 ?_
      refine q_top (z' := i) (h9) ?_
      refine q_iconst C 1 dX4_readNumber_29 ?_
      refine q_iadd C dX4_readNumber_30 ?_
      refine q_put (T := TX4) (tyX := tyX4) (i := 9) (j := 9) (z := (i + 1)) (ty := .int) C rfl kd110 (by decide) rfl uws4 tyX4_ok nmX4 (by decide) (kd_ln.2.2.2.2 kd110) wd_874 rfl rfl rfl rfl (fsS_4_9 w _ _ _) (Nat.le_of_ble_eq_true rfl) dX4_readNumber_31 ?_
      have hJ1 := MJ.fld (i := 9) (z := i + 1) hJ ⟨by decide, by decide, by decide⟩
      have hb1 : SB ((up F 110 9 (i + 1)) 110 10) s := by rw [up_j (by decide)]; exact hb
      refine q_aload_n C 1 dX4_readNumber_34 rfl ?_
      refine q_aload_n C 1 dX4_readNumber_35 rfl ?_
      refine q_get (T := TX4) (i := 9) C kd110 (by decide) rfl uws4 (by decide) wd_874 rfl dX4_readNumber_36 ?_
      refine q_top (z' := i + 1) (up_eq) ?_
      refine q_cI (q_runV (As := [.int (iI (i + 1))]) (rest := []) C (k_X4_digitAt (F := (up F 110 9 (i + 1))) l hJ1.1 hV (q := i + 1) ⟨by omega, by omega⟩) kd110 (by decide) rfl wd_1111 wd_1110 wd_52 wd_81 wd_1108 nd_X4_digitAt rfl (by decide) ⟨Nat.zero_le _, Nat.zero_le _⟩ rfl (Nat.le_of_ble_eq_true rfl) dX4_readNumber_39) ?_
      rintro z F' ⟨rfl, rfl⟩
      have qd39 := dga_cases A.B A.len (i + 1)
      refine q_istore_n (lv' := [(2, .int (iI (dga A.B A.len (i + 1)))), (1, .int (iI (dga A.B A.len (i)))), (0, .ref (adr w 110))]) C dX4_readNumber_42 (by decide) rfl ?_
      refine q_iload_n C 1 dX4_readNumber_43 rfl ?_
      refine q_iconst C 1 dX4_readNumber_44 ?_
      refine q_iconst C 3 dX4_readNumber_45 ?_
      refine q_cI (q_runS (As := [.int (iI (dga A.B A.len (i))), .int (iI 1), .int (iI 3)]) (rest := []) C (k_X4_in l (x := dga A.B A.len (i)) (a := 1) (b := 3) ⟨by omega, by omega⟩ ⟨by omega, by omega⟩ ⟨by omega, by omega⟩) wd_930 wd_929 wd_81 wd_928 nd_X4_in rfl (by decide) ⟨Nat.zero_le _, Nat.zero_le _⟩ rfl (Nat.le_of_ble_eq_true rfl) dX4_readNumber_46) ?_
      rintro z F' ⟨⟨rfl, hq46⟩ | ⟨rfl, hq46⟩, rfl⟩
      · refine q_if_eq C 57 dX4_readNumber_49 ⟨by decide, by decide⟩  (by decide) (fun h => absurd h (by decide)) (fun _ => ?_)
        refine q_iload_n C 0 dX4_readNumber_52 rfl ?_
        refine q_iconst C (-1) dX4_readNumber_53 ?_
        refine q_icmp_ne C 71 dX4_readNumber_54 ⟨by omega, by omega⟩ ⟨by decide, by decide⟩ (by decide) (fun h54 => ?_) (fun h54 => ?_)
        · refine q_aload_n C 2 dX4_readNumber_71 rfl ?_
          refine q_bipush C 10 dX4_readNumber_72 (by decide) ?_
          refine q_iload_n C 1 dX4_readNumber_74 rfl ?_
          refine q_imul C dX4_readNumber_75 ?_
          refine q_iload_n C 0 dX4_readNumber_76 rfl ?_
          refine q_iadd C dX4_readNumber_77 ?_
          refine q_cI (q_runV (As := [.int (iI ((10 * (dga A.B A.len (i))) + (dga A.B A.len (i + 1))))]) (rest := []) C (k_X4_hasStood (F := (up F 110 9 (i + 1))) l (x := (10 * (dga A.B A.len (i))) + (dga A.B A.len (i + 1))) ⟨by omega, by omega⟩) kd110 (by decide) rfl wd_1119 wd_1118 wd_54 wd_81 wd_1116 nd_X4_hasStood rfl (by decide) ⟨Nat.zero_le _, Nat.zero_le _⟩ rfl (Nat.le_of_ble_eq_true rfl) dX4_readNumber_78) ?_
          rintro z F' ⟨⟨rfl, hs78⟩ | ⟨rfl, hs78⟩, rfl⟩
          · rw [hb1 ((10 * (dga A.B A.len (i))) + (dga A.B A.len (i + 1))) (by omega) (by omega)] at hs78
            have ht78 := hRV.2.2.2.2.2.1 ((10 * (dga A.B A.len (i))) + (dga A.B A.len (i + 1))) (by omega) (by omega)
            refine q_if_eq C 86 dX4_readNumber_81 ⟨by decide, by decide⟩  (by decide) (fun h => absurd h (by decide)) (fun _ => ?_)
            refine q_iconst C (-1) dX4_readNumber_84 ?_
            refine q_iret C dX4_readNumber_85 ?_
            exact ⟨i + 1, (wNum s (dga A.B A.len i)), up_eq, (FrN.f FrN.refl), by omega, by omega, hrd1, Or.inl ⟨rfl, fun q => rn_d (by omega) (by omega) (by omega) (fun (g : fr s (10 * (dga A.B A.len i) + (dga A.B A.len (i + 1)))) => absurd g.2.2 (by omega)), fun q => by omega⟩⟩
          · rw [hb1 ((10 * (dga A.B A.len (i))) + (dga A.B A.len (i + 1))) (by omega) (by omega)] at hs78
            have ht78 := hRV.2.2.2.2.2.1 ((10 * (dga A.B A.len (i))) + (dga A.B A.len (i + 1))) (by omega) (by omega)
            refine q_if_eq C 86 dX4_readNumber_81 ⟨by decide, by decide⟩  (by decide) (fun _ => ?_) (fun h => absurd h (by decide))
            refine q_aload_n C 2 dX4_readNumber_86 rfl ?_
            refine q_dup C dX4_readNumber_87 rfl ?_
            refine q_get (T := TX4) (i := 9) C kd110 (by decide) rfl uws4 (by decide) wd_874 rfl dX4_readNumber_88 ?_
            refine q_top (z' := i + 1) (up_eq) ?_
            refine q_iconst C 1 dX4_readNumber_91 ?_
            refine q_iadd C dX4_readNumber_92 ?_
            refine q_put (T := TX4) (tyX := tyX4) (i := 9) (j := 9) (z := ((i + 1) + 1)) (ty := .int) C rfl kd110 (by decide) rfl uws4 tyX4_ok nmX4 (by decide) (kd_ln.2.2.2.2 kd110) wd_874 rfl rfl rfl rfl (fsS_4_9 w _ _ _) (Nat.le_of_ble_eq_true rfl) dX4_readNumber_93 ?_
            have hJ2 := MJ.fld (i := 9) (z := (i + 1) + 1) hJ1 ⟨by decide, by decide, by decide⟩
            have hb2 : SB ((up (up F 110 9 (i + 1)) 110 9 ((i + 1) + 1)) 110 10) s := by rw [up_j (by decide)]; exact hb1
            refine q_bipush C 10 dX4_readNumber_96 (by decide) ?_
            refine q_iload_n C 1 dX4_readNumber_98 rfl ?_
            refine q_imul C dX4_readNumber_99 ?_
            refine q_iload_n C 0 dX4_readNumber_100 rfl ?_
            refine q_iadd C dX4_readNumber_101 ?_
            refine q_iret C dX4_readNumber_102 ?_
            exact ⟨i + 1 + 1, wNum s (10 * (dga A.B A.len i) + (dga A.B A.len (i + 1))), up_eq, (FrN.f (FrN.f FrN.refl)), by omega, by omega, rdp_s (by omega) hrd1 (rn_e (by omega) (by omega) (by omega) (by omega)), Or.inr ⟨rfl, ⟨by omega, by omega, by omega⟩, by omega, fun q a c => rn_f (by omega) a c⟩⟩
        · refine q_aload_n C 2 dX4_readNumber_57 rfl ?_
          refine q_iload_n C 1 dX4_readNumber_58 rfl ?_
          refine q_cI (q_runV (As := [.int (iI (dga A.B A.len (i)))]) (rest := []) C (k_X4_hasStood (F := (up F 110 9 (i + 1))) l (x := dga A.B A.len (i)) ⟨by omega, by omega⟩) kd110 (by decide) rfl wd_1119 wd_1118 wd_54 wd_81 wd_1116 nd_X4_hasStood rfl (by decide) ⟨Nat.zero_le _, Nat.zero_le _⟩ rfl (Nat.le_of_ble_eq_true rfl) dX4_readNumber_59) ?_
          rintro z F' ⟨⟨rfl, hs59⟩ | ⟨rfl, hs59⟩, rfl⟩
          · rw [hb1 (dga A.B A.len (i)) (by omega) (by omega)] at hs59
            have ht59 := hRV.2.2.2.2.2.1 (dga A.B A.len (i)) (by omega) (by omega)
            refine q_if_eq C 69 dX4_readNumber_62 ⟨by decide, by decide⟩  (by decide) (fun h => absurd h (by decide)) (fun _ => ?_)
            refine q_iconst C (-1) dX4_readNumber_65 ?_
            refine q_goto C 70 dX4_readNumber_66 (by decide) ?_
            refine q_iret C dX4_readNumber_70 ?_
            exact ⟨i + 1, (wNum s (dga A.B A.len i)), up_eq, (FrN.f FrN.refl), by omega, by omega, hrd1, Or.inl ⟨rfl, fun q => rn_c1 (by omega) (fun (g : fr s (dga A.B A.len i)) => absurd g.2.2 (by omega)) (fun g => by omega), fun _ g => absurd g.2.2 (by show ¬ s.T (dga A.B A.len i) = 0; omega)⟩⟩
          · rw [hb1 (dga A.B A.len (i)) (by omega) (by omega)] at hs59
            have ht59 := hRV.2.2.2.2.2.1 (dga A.B A.len (i)) (by omega) (by omega)
            refine q_if_eq C 69 dX4_readNumber_62 ⟨by decide, by decide⟩  (by decide) (fun _ => ?_) (fun h => absurd h (by decide))
            refine q_iload_n C 1 dX4_readNumber_69 rfl ?_
            refine q_iret C dX4_readNumber_70 ?_
            exact ⟨i + 1, (wNum s (dga A.B A.len i)), up_eq, (FrN.f FrN.refl), by omega, by omega, hrd1, Or.inr ⟨rfl, ⟨by omega, by omega, by omega⟩, by omega, fun q a c => rn_c2 (by omega) (by omega) a c⟩⟩
      · refine q_if_eq C 57 dX4_readNumber_49 ⟨by decide, by decide⟩  (by decide) (fun _ => ?_) (fun h => absurd h (by decide))
        refine q_aload_n C 2 dX4_readNumber_57 rfl ?_
        refine q_iload_n C 1 dX4_readNumber_58 rfl ?_
        refine q_cI (q_runV (As := [.int (iI (dga A.B A.len (i)))]) (rest := []) C (k_X4_hasStood (F := (up F 110 9 (i + 1))) l (x := dga A.B A.len (i)) ⟨by omega, by omega⟩) kd110 (by decide) rfl wd_1119 wd_1118 wd_54 wd_81 wd_1116 nd_X4_hasStood rfl (by decide) ⟨Nat.zero_le _, Nat.zero_le _⟩ rfl (Nat.le_of_ble_eq_true rfl) dX4_readNumber_59) ?_
        rintro z F' ⟨⟨rfl, hs59⟩ | ⟨rfl, hs59⟩, rfl⟩
        · rw [hb1 (dga A.B A.len (i)) (by omega) (by omega)] at hs59
          have ht59 := hRV.2.2.2.2.2.1 (dga A.B A.len (i)) (by omega) (by omega)
          refine q_if_eq C 69 dX4_readNumber_62 ⟨by decide, by decide⟩  (by decide) (fun h => absurd h (by decide)) (fun _ => ?_)
          refine q_iconst C (-1) dX4_readNumber_65 ?_
          refine q_goto C 70 dX4_readNumber_66 (by decide) ?_
          refine q_iret C dX4_readNumber_70 ?_
          exact ⟨i + 1, (wNum s (dga A.B A.len i)), up_eq, (FrN.f FrN.refl), by omega, by omega, hrd1, Or.inl ⟨rfl, fun q => rn_c1 (by omega) (fun (g : fr s (dga A.B A.len i)) => absurd g.2.2 (by omega)) (fun g => by omega), fun _ g => absurd g.2.2 (by show ¬ s.T (dga A.B A.len i) = 0; omega)⟩⟩
        · rw [hb1 (dga A.B A.len (i)) (by omega) (by omega)] at hs59
          have ht59 := hRV.2.2.2.2.2.1 (dga A.B A.len (i)) (by omega) (by omega)
          refine q_if_eq C 69 dX4_readNumber_62 ⟨by decide, by decide⟩  (by decide) (fun _ => ?_) (fun h => absurd h (by decide))
          refine q_iload_n C 1 dX4_readNumber_69 rfl ?_
          refine q_iret C dX4_readNumber_70 ?_
          exact ⟨i + 1, (wNum s (dga A.B A.len i)), up_eq, (FrN.f FrN.refl), by omega, by omega, hrd1, Or.inr ⟨rfl, ⟨by omega, by omega, by omega⟩, by omega, fun q a c => rn_c2 (by omega) (by omega) a c⟩⟩
    · refine q_if_ne C 24 dX4_readNumber_19 ⟨by decide, by decide⟩  (by decide) (fun h => absurd h (by decide)) (fun _ => ?_)
      refine q_iconst C (-1) dX4_readNumber_22 ?_
      refine q_iret C dX4_readNumber_23 ?_
      first | exact ⟨i, s, h9, FrN.refl, by omega, by omega, hrd, Or.inl ⟨rfl, fun q => rn_b hn (by omega) (by omega) hcb16, fun _ => by rw [hn]; exact fun g => absurd g.1 (by decide)⟩⟩ | exact ⟨i, s, h9, FrN.refl, by omega, by omega, hrd, Or.inl ⟨rfl, fun q => rn_a hn (by omega), fun _ => by rw [hn]; exact fun g => absurd g.1 (by decide)⟩⟩

set_option maxRecDepth 100000 in
set_option maxHeartbeats 4000000 in
theorem k_X4_readPoem (l : Launch) {w : WP} {F : FF} {A : AS} (hM : MI F A) (hV : AV A)  : Con l yX4_readPoem cX4_readPoem 6 (some .boolean) 3 w [.ref (adr w 110)] F (QI w (fun z F' => F' 110 9 = fe A.B A.len ∧ MJ F F' A (F 110 8) ∧ (z = 1 ∧ fe A.B A.len = A.len ∧ fr (rst A.B A.len) (rst A.B A.len).n ∧ PD F' (clo (rst A.B A.len)) ∨ z = 0 ∧ ¬ (fe A.B A.len = A.len ∧ fr (rst A.B A.len) (rst A.B A.len).n)))) := by
  refine Con.mk (lv := [(0, .ref (adr w 110))]) (by decide) (Nat.le_of_ble_eq_true rfl) rfl ?_
  intro pg ev s0 mi be me co C hz
  have hr : F 111 = A.r := hM.r
  have hI : Iv A.r := hM.iv
  have hJ := MJ.refl hM
  have hnb := hV.1
  unfold nb at hnb
  have hlr := hM.lr
  have hnr := hM.s.2.1
  refine q_aload_n C 0 dX4_readPoem_0 rfl ?_
  refine q_iconst C 0 dX4_readPoem_1 ?_
  refine q_put (T := TX4) (tyX := tyX4) (i := 9) (j := 9) (z := 0) (ty := .int) C rfl kd110 (by decide) rfl uws4 tyX4_ok nmX4 (by decide) (kd_ln.2.2.2.2 kd110) wd_874 rfl rfl rfl rfl (fsS_4_9 w _ _ _) (Nat.le_of_ble_eq_true rfl) dX4_readPoem_2 ?_
  have hJ1 := MJ.fld (i := 9) (z := 0) hJ ⟨by decide, by decide, by decide⟩
  refine q_aload_n C 0 dX4_readPoem_5 rfl ?_
  refine q_lconst C 0 rfl dX4_readPoem_6 ?_
  refine q_put (T := TX4) (tyX := tyX4) (i := 10) (j := 10) (z := 0) (ty := .long) C rfl kd110 (by decide) rfl uws4 tyX4_ok nmX4 (by decide) (kd_ln.2.2.2.2 kd110) wd_875 rfl rfl rfl rfl (fsS_4_10 w _ _ _) (Nat.le_of_ble_eq_true rfl) dX4_readPoem_7 ?_
  have hJ2 := MJ.fld (i := 10) (z := 0) hJ1 ⟨by decide, by decide, by decide⟩
  refine q_aload_n C 0 dX4_readPoem_10 rfl ?_
  refine q_iconst C 0 dX4_readPoem_11 ?_
  refine q_put (T := TX4) (tyX := tyX4) (i := 11) (j := 11) (z := 0) (ty := .int) C rfl kd110 (by decide) rfl uws4 tyX4_ok nmX4 (by decide) (kd_ln.2.2.2.2 kd110) wd_876 rfl rfl rfl rfl (fsS_4_11 w _ _ _) (Nat.le_of_ble_eq_true rfl) dX4_readPoem_12 ?_
  have hJ3 := MJ.fld (i := 11) (z := 0) hJ2 ⟨by decide, by decide, by decide⟩
  have hJz := hJ3
  refine q_iconst C 0 dX4_readPoem_15 ?_
  refine q_istore_n (lv' := [(1, .int (iI 0)), (0, .ref (adr w 110))]) C dX4_readPoem_16 (by decide) rfl ?_
  refine q_iconst C 0 dX4_readPoem_17 ?_
  refine q_istore_n (lv' := [(2, .int (iI 0)), (1, .int (iI 0)), (0, .ref (adr w 110))]) C dX4_readPoem_18 (by decide) rfl ?_
  refine q_lv (lv' := [(0, .ref (adr w 110)), (1, .int (iI 0)), (2, .int (iI 0))]) [2, 1, 0] rfl ?_
  refine wf3 (P := fun (i : Int) (s : RS) (G : FF) => Wq pg l ev _ s0 mi _ be me co _ w _ _ _ 19 [(0, .ref (adr w 110)), (1, .int (iI s.l)), (2, .int (iI s.o))] [] G) (I := fun (i : Int) (s : RS) (G : FF) => 0 ≤ i ∧ i ≤ A.len ∧ rdp A.B i.toNat = some s ∧ s.n = -1 ∧ RV s ∧ MJ F G A (F 110 8) ∧ G 110 9 = i ∧ G 110 11 = s.f ∧ (∀ j, 0 ≤ j → j < s.f → G 117 j = s.W j ∧ G 118 j = s.L j) ∧ SB (G 110 10) s) (μ := fun (i : Int) (s : RS) (G : FF) => (A.len - i).toNat) ?_ 0 rs0 (up (up (up F 110 9 0) 110 10 0) 110 11 0) (⟨by omega, by omega, rfl, rfl, rs0_v, hJz, by simp (disch := omega) only [up_k, up_j, up_eq], up_eq, fun j a c => by have c2 : j < 0 := c; omega, by rw [up_j (by decide), up_eq]; exact SB_0⟩)
  intro i s G hI' ih19
  (try dsimp only at hI'); (try dsimp only at ih19); (try dsimp only)
  obtain ⟨hi0, hi1, hrd, hn, hRV, hJG, h9i, h11, hpd, hsb⟩ := hI'
  refine q_aload_n C 0 dX4_readPoem_19 rfl ?_
  refine q_cI (q_runV (As := []) (rest := []) C (k_X4_readNumber (F := G) l hJG.1 hV (s := s) (i := i) hRV hsb h9i ⟨hi0, hi1⟩ hrd hn) kd110 (by decide) rfl wd_1107 wd_1106 wd_51 wd_81 wd_1104 nd_X4_readNumber rfl (by decide) ⟨Nat.zero_le _, Nat.zero_le _⟩ rfl (Nat.le_of_ble_eq_true rfl) dX4_readPoem_20) ?_
  rintro z G1 ⟨j, s2, h9j, hfN, hij, hjn, hrd2, ⟨hz1, hst2, hfr2⟩ | ⟨hs2, hfz, hlt, hdg⟩⟩
  · subst hz1
    have hJn := MJ.fn hJG hfN
    have hfe := fe_is (B := A.B) (n := A.len) (by omega) hjn hrd2 hst2
    refine q_istore_n (lv' := [(3, .int (iI (-1))), (0, .ref (adr w 110)), (1, .int (iI s.l)), (2, .int (iI s.o))]) C dX4_readPoem_23 (by decide) rfl ?_
    refine q_iload_n C 0 dX4_readPoem_24 rfl ?_
    refine q_iconst C (-1) dX4_readPoem_25 ?_
    refine q_icmp_ne C 31 dX4_readPoem_26 ⟨by decide, by decide⟩ ⟨by decide, by decide⟩ (by decide) (fun h => absurd h (by decide)) (fun _ => ?_)
    refine q_iconst C 0 dX4_readPoem_29 ?_
    refine q_zret C dX4_readPoem_30 (by decide) ?_
    exact ⟨h9j.trans hfe.1, hJn, Or.inr ⟨rfl, fun g => hfr2 (by omega) (by have e := hfe.2 (by omega); rw [e] at g; exact g.2)⟩⟩
  · subst hs2
    have hJn := MJ.fn hJG hfN
    have hbn : SB (G1 110 10) s := by rw [hfN.2 10 (by decide)]; exact hsb
    have h11n : G1 110 11 = s.f := (hfN.2 11 (by decide)).trans h11
    obtain ⟨hfz0, hfz1, hfz2⟩ := id hfz
    have hrv := id hRV
    unfold RV at hrv
    refine q_istore_n (lv' := [(3, .int (iI z)), (0, .ref (adr w 110)), (1, .int (iI s.l)), (2, .int (iI s.o))]) C dX4_readPoem_23 (by decide) rfl ?_
    refine q_iload_n C 0 dX4_readPoem_24 rfl ?_
    refine q_iconst C (-1) dX4_readPoem_25 ?_
    refine q_icmp_ne C 31 dX4_readPoem_26 ⟨by omega, by omega⟩ ⟨by decide, by decide⟩ (by decide) (fun h26 => ?_) (fun h26 => ?_)
    · refine q_aload_n C 1 dX4_readPoem_31 rfl ?_
      refine q_dup C dX4_readPoem_32 rfl ?_
      refine q_get (T := TX4) (i := 10) C kd110 (by decide) rfl uws4 (by decide) wd_875 rfl dX4_readPoem_33 ?_
      refine q_lconst C 1 rfl dX4_readPoem_36 ?_
      refine q_iload_n C 0 dX4_readPoem_37 rfl ?_
      refine q_lshl C (shlL 1 z) (shlL_eq _ _) dX4_readPoem_38 ?_
      refine q_lor C (orL (G1 110 10) (shlL 1 z)) (orL_eq _ _) dX4_readPoem_39 ?_
      refine q_put (T := TX4) (tyX := tyX4) (i := 10) (j := 10) (z := (orL (G1 110 10) (shlL 1 z))) (ty := .long) C rfl kd110 (by decide) rfl uws4 tyX4_ok nmX4 (by decide) (kd_ln.2.2.2.2 kd110) wd_875 rfl rfl rfl rfl (fsS_4_10 w _ _ _) (Nat.le_of_ble_eq_true rfl) dX4_readPoem_40 ?_
      have hJ4 := MJ.fld (i := 10) (z := orL (G1 110 10) (shlL 1 z)) hJn ⟨by decide, by decide, by decide⟩
      refine q_aload_n C 1 dX4_readPoem_43 rfl ?_
      refine q_get (T := TX4) (i := 12) C kd110 (by decide) rfl uws4 (by decide) wd_877 rfl dX4_readPoem_44 ?_
      refine q_aload_n C 1 dX4_readPoem_47 rfl ?_
      refine q_get (T := TX4) (i := 11) C kd110 (by decide) rfl uws4 (by decide) wd_876 rfl dX4_readPoem_48 ?_
      refine q_top (z' := s.f) (by simp (disch := omega) only [up_k, up_j, up_eq]; first | done | exact h11n) ?_
      refine q_iload_n C 0 dX4_readPoem_51 rfl ?_
      refine q_iast C kd117 ⟨by omega, by rw [ln117]; omega⟩ dX4_readPoem_52 ?_
      have hJ5 := MJ.scr (k := 117) (i := s.f) (z := z) hJ4 (by decide)
      refine q_aload_n C 1 dX4_readPoem_53 rfl ?_
      refine q_get (T := TX4) (i := 13) C kd110 (by decide) rfl uws4 (by decide) wd_878 rfl dX4_readPoem_54 ?_
      refine q_aload_n C 1 dX4_readPoem_57 rfl ?_
      refine q_get (T := TX4) (i := 11) C kd110 (by decide) rfl uws4 (by decide) wd_876 rfl dX4_readPoem_58 ?_
      refine q_top (z' := s.f) (by simp (disch := omega) only [up_k, up_j, up_eq]; first | done | exact h11n) ?_
      refine q_iload_n C 2 dX4_readPoem_61 rfl ?_
      refine q_iast C kd118 ⟨by omega, by rw [ln118]; omega⟩ dX4_readPoem_62 ?_
      have hJ6 := MJ.scr (k := 118) (i := s.f) (z := s.l) hJ5 (by decide)
      refine q_aload_n C 1 dX4_readPoem_63 rfl ?_
      refine q_dup C dX4_readPoem_64 rfl ?_
      refine q_get (T := TX4) (i := 11) C kd110 (by decide) rfl uws4 (by decide) wd_876 rfl dX4_readPoem_65 ?_
      refine q_top (z' := s.f) (by simp (disch := omega) only [up_k, up_j, up_eq]; first | done | exact h11n) ?_
      refine q_iconst C 1 dX4_readPoem_68 ?_
      refine q_iadd C dX4_readPoem_69 ?_
      refine q_put (T := TX4) (tyX := tyX4) (i := 11) (j := 11) (z := (s.f + 1)) (ty := .int) C rfl kd110 (by decide) rfl uws4 tyX4_ok nmX4 (by decide) (kd_ln.2.2.2.2 kd110) wd_876 rfl rfl rfl rfl (fsS_4_11 w _ _ _) (Nat.le_of_ble_eq_true rfl) dX4_readPoem_70 ?_
      have hJ7 := MJ.fld (i := 11) (z := s.f + 1) hJ6 ⟨by decide, by decide, by decide⟩
      refine q_iinc (lv' := [(2, .int (iI (s.o + 1))), (3, .int (iI z)), (0, .ref (adr w 110)), (1, .int (iI s.l))]) C 3 dX4_readPoem_73 rfl (by decide) rfl ?_
      refine q_aload_n C 2 dX4_readPoem_76 rfl ?_
      refine q_get (T := TX4) (i := 9) C kd110 (by decide) rfl uws4 (by decide) wd_874 rfl dX4_readPoem_77 ?_
      refine q_top (z' := j) (by simp (disch := omega) only [up_k, up_j, up_eq]; first | done | exact h9j) ?_
      refine q_aload_n C 2 dX4_readPoem_80 rfl ?_
      refine q_get (T := TX4) (i := 7) C kd110 (by decide) rfl uws4 (by decide) wd_872 rfl dX4_readPoem_81 ?_
      refine q_top (z' := A.len) (hJ7.1.l) ?_
      refine q_icmp_ne C 89 dX4_readPoem_84 ⟨by omega, by omega⟩ ⟨by omega, by omega⟩ (by decide) (fun h84 => ?_) (fun h84 => ?_)
      · refine q_aload_n C 2 dX4_readPoem_89 rfl ?_
        refine q_get (T := TX4) (i := 6) C kd110 (by decide) rfl uws4 (by decide) wd_871 rfl dX4_readPoem_90 ?_
        refine q_aload_n C 2 dX4_readPoem_93 rfl ?_
        refine q_get (T := TX4) (i := 9) C kd110 (by decide) rfl uws4 (by decide) wd_874 rfl dX4_readPoem_94 ?_
        refine q_top (z' := j) (by simp (disch := omega) only [up_k, up_j, up_eq]; first | done | exact h9j) ?_
        have hBj := hV.2.2.2.2 j (by omega) (by omega)
        refine q_iald C kd116 ⟨by omega, by rw [ln116]; omega⟩ dX4_readPoem_97 ?_
        refine q_top (z' := A.B j) (hJ7.1.c (i := j) (by omega) (by omega)) ?_
        refine q_bipush C 44 dX4_readPoem_98 (by decide) ?_
        refine q_icmp_ne C 113 dX4_readPoem_100 ⟨by omega, by omega⟩ ⟨by decide, by decide⟩ (by decide) (fun h100 => ?_) (fun h100 => ?_)
        · refine q_iconst C 0 dX4_readPoem_113 ?_
          refine q_istore (lv' := [(4, .int (iI 0)), (2, .int (iI (s.o + 1))), (3, .int (iI z)), (0, .ref (adr w 110)), (1, .int (iI s.l))]) C dX4_readPoem_114 (by decide) rfl ?_
          refine q_aload_n C 3 dX4_readPoem_116 rfl ?_
          refine q_get (T := TX4) (i := 6) C kd110 (by decide) rfl uws4 (by decide) wd_871 rfl dX4_readPoem_117 ?_
          refine q_aload_n C 3 dX4_readPoem_120 rfl ?_
          refine q_get (T := TX4) (i := 9) C kd110 (by decide) rfl uws4 (by decide) wd_874 rfl dX4_readPoem_121 ?_
          refine q_top (z' := j) (by simp (disch := omega) only [up_k, up_j, up_eq]; first | done | exact h9j) ?_
          refine q_iald C kd116 ⟨by omega, by rw [ln116]; omega⟩ dX4_readPoem_124 ?_
          refine q_top (z' := A.B j) (hJ7.1.c (i := j) (by omega) (by omega)) ?_
          refine q_bipush C 47 dX4_readPoem_125 (by decide) ?_
          refine q_icmp_ne C 139 dX4_readPoem_127 ⟨by omega, by omega⟩ ⟨by decide, by decide⟩ (by decide) (fun h127 => ?_) (fun h127 => ?_)
          · refine q_iconst C 0 dX4_readPoem_139 ?_
            refine q_istore (lv' := [(5, .int (iI 0)), (4, .int (iI 0)), (2, .int (iI (s.o + 1))), (3, .int (iI z)), (0, .ref (adr w 110)), (1, .int (iI s.l))]) C dX4_readPoem_140 (by decide) rfl ?_
            refine q_iload C 1 dX4_readPoem_142 rfl ?_
            refine q_if_ne C 154 dX4_readPoem_144 ⟨by decide, by decide⟩  (by decide) (fun h => absurd h (by decide)) (fun _ => ?_)
            refine q_iload C 0 dX4_readPoem_147 rfl ?_
            refine q_if_ne C 154 dX4_readPoem_149 ⟨by decide, by decide⟩  (by decide) (fun h => absurd h (by decide)) (fun _ => ?_)
            refine q_iconst C 0 dX4_readPoem_152 ?_
            refine q_zret C dX4_readPoem_153 (by decide) ?_
            have hst3 : stp (wNum s z) (A.B j) = none := rp_none hdg (by omega) (by omega) (by omega)
            have hfe := fe_is (B := A.B) (n := A.len) (by omega) hjn hrd2 (fun _ => hst3)
            refine ⟨?_, hJ7, Or.inr ⟨rfl, fun g => by omega⟩⟩
            simp (disch := omega) only [up_k, up_j, up_eq]; exact h9j.trans hfe.1
          · refine q_iload_n C 4 dX4_readPoem_130 rfl ?_
            refine q_iconst C 3 dX4_readPoem_131 ?_
            refine q_icmp_ge C 139 dX4_readPoem_132 ⟨by omega, by omega⟩ ⟨by decide, by decide⟩ (by decide) (fun h132 => ?_) (fun h132 => ?_)
            · refine q_iconst C 0 dX4_readPoem_139 ?_
              refine q_istore (lv' := [(5, .int (iI 0)), (4, .int (iI 0)), (2, .int (iI (s.o + 1))), (3, .int (iI z)), (0, .ref (adr w 110)), (1, .int (iI s.l))]) C dX4_readPoem_140 (by decide) rfl ?_
              refine q_iload C 1 dX4_readPoem_142 rfl ?_
              refine q_if_ne C 154 dX4_readPoem_144 ⟨by decide, by decide⟩  (by decide) (fun h => absurd h (by decide)) (fun _ => ?_)
              refine q_iload C 0 dX4_readPoem_147 rfl ?_
              refine q_if_ne C 154 dX4_readPoem_149 ⟨by decide, by decide⟩  (by decide) (fun h => absurd h (by decide)) (fun _ => ?_)
              refine q_iconst C 0 dX4_readPoem_152 ?_
              refine q_zret C dX4_readPoem_153 (by decide) ?_
              have hst3 : stp (wNum s z) (A.B j) = none := rp_none hdg (by omega) (by omega) (by omega)
              have hfe := fe_is (B := A.B) (n := A.len) (by omega) hjn hrd2 (fun _ => hst3)
              refine ⟨?_, hJ7, Or.inr ⟨rfl, fun g => by omega⟩⟩
              simp (disch := omega) only [up_k, up_j, up_eq]; exact h9j.trans hfe.1
            · refine q_iconst C 1 dX4_readPoem_135 ?_
              refine q_goto C 140 dX4_readPoem_136 (by decide) ?_
              refine q_istore (lv' := [(5, .int (iI 1)), (4, .int (iI 0)), (2, .int (iI (s.o + 1))), (3, .int (iI z)), (0, .ref (adr w 110)), (1, .int (iI s.l))]) C dX4_readPoem_140 (by decide) rfl ?_
              refine q_iload C 1 dX4_readPoem_142 rfl ?_
              refine q_if_ne C 154 dX4_readPoem_144 ⟨by decide, by decide⟩  (by decide) (fun h => absurd h (by decide)) (fun _ => ?_)
              refine q_iload C 0 dX4_readPoem_147 rfl ?_
              refine q_if_ne C 154 dX4_readPoem_149 ⟨by decide, by decide⟩  (by decide) (fun _ => ?_) (fun h => absurd h (by decide))
              refine q_iload_n C 5 dX4_readPoem_154 rfl ?_
              refine q_iload C 0 dX4_readPoem_155 rfl ?_
              refine q_if_eq C 164 dX4_readPoem_157 ⟨by decide, by decide⟩  (by decide) (fun h => absurd h (by decide)) (fun _ => ?_)
              refine q_iconst C 1 dX4_readPoem_160 ?_
              refine q_goto C 165 dX4_readPoem_161 (by decide) ?_
              refine q_iadd C dX4_readPoem_165 ?_
              refine q_istore_n (lv' := [(1, .int (iI (s.l + 1))), (5, .int (iI 1)), (4, .int (iI 0)), (2, .int (iI (s.o + 1))), (3, .int (iI z)), (0, .ref (adr w 110))]) C dX4_readPoem_166 (by decide) rfl ?_
              refine q_iload C 1 dX4_readPoem_167 rfl ?_
              refine q_if_eq C 176 dX4_readPoem_169 ⟨by decide, by decide⟩  (by decide) (fun h => absurd h (by decide)) (fun _ => ?_)
              refine q_iconst C 0 dX4_readPoem_172 ?_
              refine q_goto C 177 dX4_readPoem_173 (by decide) ?_
              refine q_istore_n (lv' := [(2, .int (iI 0)), (1, .int (iI (s.l + 1))), (5, .int (iI 1)), (4, .int (iI 0)), (3, .int (iI z)), (0, .ref (adr w 110))]) C dX4_readPoem_177 (by decide) rfl ?_
              refine q_aload_n C 5 dX4_readPoem_178 rfl ?_
              refine q_dup C dX4_readPoem_179 rfl ?_
              refine q_get (T := TX4) (i := 9) C kd110 (by decide) rfl uws4 (by decide) wd_874 rfl dX4_readPoem_180 ?_
              refine q_top (z' := j) (by simp (disch := omega) only [up_k, up_j, up_eq]; first | done | exact h9j) ?_
              refine q_iconst C 1 dX4_readPoem_183 ?_
              refine q_iadd C dX4_readPoem_184 ?_
              refine q_put (T := TX4) (tyX := tyX4) (i := 9) (j := 9) (z := (j + 1)) (ty := .int) C rfl kd110 (by decide) rfl uws4 tyX4_ok nmX4 (by decide) (kd_ln.2.2.2.2 kd110) wd_874 rfl rfl rfl rfl (fsS_4_9 w _ _ _) (Nat.le_of_ble_eq_true rfl) dX4_readPoem_185 ?_
              have hJ8 := MJ.fld (i := 9) (z := j + 1) hJ7 ⟨by decide, by decide, by decide⟩
              refine q_goto C 19 dX4_readPoem_188 (by decide) ?_
              have hstp : stp (wNum s z) (A.B j) = some (wLin (clo (wNum s z))) := by first | (exfalso; omega) | exact rp_47 (by omega) (by omega) hfz
              have hRVn := stp_v (stp_v9 hRV hfz) hstp
              refine q_lv (lv' := [(0, .ref (adr w 110)), (1, .int (iI (s.l + 1))), (2, .int (iI 0))]) [5, 1, 0] rfl ?_
              exact ih19 (j + 1) (wLin (clo (wNum s z))) (up (up (up (up (up G1 110 10 (orL (G1 110 10) (shlL 1 z))) 117 s.f z) 118 s.f s.l) 110 11 (s.f + 1)) 110 9 (j + 1)) (⟨by omega, by omega, rdp_s (by omega) hrd2 hstp, rfl, hRVn, hJ8, up_eq, by rw [up_j (by decide)]; exact up_eq, rp_pd hpd hfN, rp_sb hbn hfz⟩) (by omega)
        · refine q_iload_n C 0 dX4_readPoem_103 rfl ?_
          refine q_bipush C 6 dX4_readPoem_104 (by decide) ?_
          refine q_icmp_ge C 113 dX4_readPoem_106 ⟨by omega, by omega⟩ ⟨by decide, by decide⟩ (by decide) (fun h106 => ?_) (fun h106 => ?_)
          · refine q_iconst C 0 dX4_readPoem_113 ?_
            refine q_istore (lv' := [(4, .int (iI 0)), (2, .int (iI (s.o + 1))), (3, .int (iI z)), (0, .ref (adr w 110)), (1, .int (iI s.l))]) C dX4_readPoem_114 (by decide) rfl ?_
            refine q_aload_n C 3 dX4_readPoem_116 rfl ?_
            refine q_get (T := TX4) (i := 6) C kd110 (by decide) rfl uws4 (by decide) wd_871 rfl dX4_readPoem_117 ?_
            refine q_aload_n C 3 dX4_readPoem_120 rfl ?_
            refine q_get (T := TX4) (i := 9) C kd110 (by decide) rfl uws4 (by decide) wd_874 rfl dX4_readPoem_121 ?_
            refine q_top (z' := j) (by simp (disch := omega) only [up_k, up_j, up_eq]; first | done | exact h9j) ?_
            refine q_iald C kd116 ⟨by omega, by rw [ln116]; omega⟩ dX4_readPoem_124 ?_
            refine q_top (z' := A.B j) (hJ7.1.c (i := j) (by omega) (by omega)) ?_
            refine q_bipush C 47 dX4_readPoem_125 (by decide) ?_
            refine q_icmp_ne C 139 dX4_readPoem_127 ⟨by omega, by omega⟩ ⟨by decide, by decide⟩ (by decide) (fun h127 => ?_) (fun h127 => ?_)
            · refine q_iconst C 0 dX4_readPoem_139 ?_
              refine q_istore (lv' := [(5, .int (iI 0)), (4, .int (iI 0)), (2, .int (iI (s.o + 1))), (3, .int (iI z)), (0, .ref (adr w 110)), (1, .int (iI s.l))]) C dX4_readPoem_140 (by decide) rfl ?_
              refine q_iload C 1 dX4_readPoem_142 rfl ?_
              refine q_if_ne C 154 dX4_readPoem_144 ⟨by decide, by decide⟩  (by decide) (fun h => absurd h (by decide)) (fun _ => ?_)
              refine q_iload C 0 dX4_readPoem_147 rfl ?_
              refine q_if_ne C 154 dX4_readPoem_149 ⟨by decide, by decide⟩  (by decide) (fun h => absurd h (by decide)) (fun _ => ?_)
              refine q_iconst C 0 dX4_readPoem_152 ?_
              refine q_zret C dX4_readPoem_153 (by decide) ?_
              have hst3 : stp (wNum s z) (A.B j) = none := rp_none hdg (by omega) (by omega) (by omega)
              have hfe := fe_is (B := A.B) (n := A.len) (by omega) hjn hrd2 (fun _ => hst3)
              refine ⟨?_, hJ7, Or.inr ⟨rfl, fun g => by omega⟩⟩
              simp (disch := omega) only [up_k, up_j, up_eq]; exact h9j.trans hfe.1
            · refine q_iload_n C 4 dX4_readPoem_130 rfl ?_
              refine q_iconst C 3 dX4_readPoem_131 ?_
              refine q_icmp_ge C 139 dX4_readPoem_132 ⟨by omega, by omega⟩ ⟨by decide, by decide⟩ (by decide) (fun h132 => ?_) (fun h132 => ?_)
              · refine q_iconst C 0 dX4_readPoem_139 ?_
                refine q_istore (lv' := [(5, .int (iI 0)), (4, .int (iI 0)), (2, .int (iI (s.o + 1))), (3, .int (iI z)), (0, .ref (adr w 110)), (1, .int (iI s.l))]) C dX4_readPoem_140 (by decide) rfl ?_
                refine q_iload C 1 dX4_readPoem_142 rfl ?_
                refine q_if_ne C 154 dX4_readPoem_144 ⟨by decide, by decide⟩  (by decide) (fun h => absurd h (by decide)) (fun _ => ?_)
                refine q_iload C 0 dX4_readPoem_147 rfl ?_
                refine q_if_ne C 154 dX4_readPoem_149 ⟨by decide, by decide⟩  (by decide) (fun h => absurd h (by decide)) (fun _ => ?_)
                refine q_iconst C 0 dX4_readPoem_152 ?_
                refine q_zret C dX4_readPoem_153 (by decide) ?_
                have hst3 : stp (wNum s z) (A.B j) = none := rp_none hdg (by omega) (by omega) (by omega)
                have hfe := fe_is (B := A.B) (n := A.len) (by omega) hjn hrd2 (fun _ => hst3)
                refine ⟨?_, hJ7, Or.inr ⟨rfl, fun g => by omega⟩⟩
                simp (disch := omega) only [up_k, up_j, up_eq]; exact h9j.trans hfe.1
              · refine q_iconst C 1 dX4_readPoem_135 ?_
                refine q_goto C 140 dX4_readPoem_136 (by decide) ?_
                refine q_istore (lv' := [(5, .int (iI 1)), (4, .int (iI 0)), (2, .int (iI (s.o + 1))), (3, .int (iI z)), (0, .ref (adr w 110)), (1, .int (iI s.l))]) C dX4_readPoem_140 (by decide) rfl ?_
                refine q_iload C 1 dX4_readPoem_142 rfl ?_
                refine q_if_ne C 154 dX4_readPoem_144 ⟨by decide, by decide⟩  (by decide) (fun h => absurd h (by decide)) (fun _ => ?_)
                refine q_iload C 0 dX4_readPoem_147 rfl ?_
                refine q_if_ne C 154 dX4_readPoem_149 ⟨by decide, by decide⟩  (by decide) (fun _ => ?_) (fun h => absurd h (by decide))
                refine q_iload_n C 5 dX4_readPoem_154 rfl ?_
                refine q_iload C 0 dX4_readPoem_155 rfl ?_
                refine q_if_eq C 164 dX4_readPoem_157 ⟨by decide, by decide⟩  (by decide) (fun h => absurd h (by decide)) (fun _ => ?_)
                refine q_iconst C 1 dX4_readPoem_160 ?_
                refine q_goto C 165 dX4_readPoem_161 (by decide) ?_
                refine q_iadd C dX4_readPoem_165 ?_
                refine q_istore_n (lv' := [(1, .int (iI (s.l + 1))), (5, .int (iI 1)), (4, .int (iI 0)), (2, .int (iI (s.o + 1))), (3, .int (iI z)), (0, .ref (adr w 110))]) C dX4_readPoem_166 (by decide) rfl ?_
                refine q_iload C 1 dX4_readPoem_167 rfl ?_
                refine q_if_eq C 176 dX4_readPoem_169 ⟨by decide, by decide⟩  (by decide) (fun h => absurd h (by decide)) (fun _ => ?_)
                refine q_iconst C 0 dX4_readPoem_172 ?_
                refine q_goto C 177 dX4_readPoem_173 (by decide) ?_
                refine q_istore_n (lv' := [(2, .int (iI 0)), (1, .int (iI (s.l + 1))), (5, .int (iI 1)), (4, .int (iI 0)), (3, .int (iI z)), (0, .ref (adr w 110))]) C dX4_readPoem_177 (by decide) rfl ?_
                refine q_aload_n C 5 dX4_readPoem_178 rfl ?_
                refine q_dup C dX4_readPoem_179 rfl ?_
                refine q_get (T := TX4) (i := 9) C kd110 (by decide) rfl uws4 (by decide) wd_874 rfl dX4_readPoem_180 ?_
                refine q_top (z' := j) (by simp (disch := omega) only [up_k, up_j, up_eq]; first | done | exact h9j) ?_
                refine q_iconst C 1 dX4_readPoem_183 ?_
                refine q_iadd C dX4_readPoem_184 ?_
                refine q_put (T := TX4) (tyX := tyX4) (i := 9) (j := 9) (z := (j + 1)) (ty := .int) C rfl kd110 (by decide) rfl uws4 tyX4_ok nmX4 (by decide) (kd_ln.2.2.2.2 kd110) wd_874 rfl rfl rfl rfl (fsS_4_9 w _ _ _) (Nat.le_of_ble_eq_true rfl) dX4_readPoem_185 ?_
                have hJ9 := MJ.fld (i := 9) (z := j + 1) hJ7 ⟨by decide, by decide, by decide⟩
                refine q_goto C 19 dX4_readPoem_188 (by decide) ?_
                have hstp : stp (wNum s z) (A.B j) = some (wLin (clo (wNum s z))) := by first | (exfalso; omega) | exact rp_47 (by omega) (by omega) hfz
                have hRVn := stp_v (stp_v9 hRV hfz) hstp
                refine q_lv (lv' := [(0, .ref (adr w 110)), (1, .int (iI (s.l + 1))), (2, .int (iI 0))]) [5, 1, 0] rfl ?_
                exact ih19 (j + 1) (wLin (clo (wNum s z))) (up (up (up (up (up G1 110 10 (orL (G1 110 10) (shlL 1 z))) 117 s.f z) 118 s.f s.l) 110 11 (s.f + 1)) 110 9 (j + 1)) (⟨by omega, by omega, rdp_s (by omega) hrd2 hstp, rfl, hRVn, hJ9, up_eq, by rw [up_j (by decide)]; exact up_eq, rp_pd hpd hfN, rp_sb hbn hfz⟩) (by omega)
          · refine q_iconst C 1 dX4_readPoem_109 ?_
            refine q_goto C 114 dX4_readPoem_110 (by decide) ?_
            refine q_istore (lv' := [(4, .int (iI 1)), (2, .int (iI (s.o + 1))), (3, .int (iI z)), (0, .ref (adr w 110)), (1, .int (iI s.l))]) C dX4_readPoem_114 (by decide) rfl ?_
            refine q_aload_n C 3 dX4_readPoem_116 rfl ?_
            refine q_get (T := TX4) (i := 6) C kd110 (by decide) rfl uws4 (by decide) wd_871 rfl dX4_readPoem_117 ?_
            refine q_aload_n C 3 dX4_readPoem_120 rfl ?_
            refine q_get (T := TX4) (i := 9) C kd110 (by decide) rfl uws4 (by decide) wd_874 rfl dX4_readPoem_121 ?_
            refine q_top (z' := j) (by simp (disch := omega) only [up_k, up_j, up_eq]; first | done | exact h9j) ?_
            refine q_iald C kd116 ⟨by omega, by rw [ln116]; omega⟩ dX4_readPoem_124 ?_
            refine q_top (z' := A.B j) (hJ7.1.c (i := j) (by omega) (by omega)) ?_
            refine q_bipush C 47 dX4_readPoem_125 (by decide) ?_
            refine q_icmp_ne C 139 dX4_readPoem_127 ⟨by omega, by omega⟩ ⟨by decide, by decide⟩ (by decide) (fun h127 => ?_) (fun h127 => ?_)
            · refine q_iconst C 0 dX4_readPoem_139 ?_
              refine q_istore (lv' := [(5, .int (iI 0)), (4, .int (iI 1)), (2, .int (iI (s.o + 1))), (3, .int (iI z)), (0, .ref (adr w 110)), (1, .int (iI s.l))]) C dX4_readPoem_140 (by decide) rfl ?_
              refine q_iload C 1 dX4_readPoem_142 rfl ?_
              refine q_if_ne C 154 dX4_readPoem_144 ⟨by decide, by decide⟩  (by decide) (fun _ => ?_) (fun h => absurd h (by decide))
              refine q_iload_n C 5 dX4_readPoem_154 rfl ?_
              refine q_iload C 0 dX4_readPoem_155 rfl ?_
              refine q_if_eq C 164 dX4_readPoem_157 ⟨by decide, by decide⟩  (by decide) (fun _ => ?_) (fun h => absurd h (by decide))
              refine q_iconst C 0 dX4_readPoem_164 ?_
              refine q_iadd C dX4_readPoem_165 ?_
              refine q_top (z' := s.l) (by rw [show s.l + 0 = s.l by omega]) ?_
              refine q_istore_n (lv' := [(1, .int (iI s.l)), (5, .int (iI 0)), (4, .int (iI 1)), (2, .int (iI (s.o + 1))), (3, .int (iI z)), (0, .ref (adr w 110))]) C dX4_readPoem_166 (by decide) rfl ?_
              refine q_iload C 1 dX4_readPoem_167 rfl ?_
              refine q_if_eq C 176 dX4_readPoem_169 ⟨by decide, by decide⟩  (by decide) (fun _ => ?_) (fun h => absurd h (by decide))
              refine q_iload_n C 3 dX4_readPoem_176 rfl ?_
              refine q_istore_n (lv' := [(2, .int (iI (s.o + 1))), (1, .int (iI s.l)), (5, .int (iI 0)), (4, .int (iI 1)), (3, .int (iI z)), (0, .ref (adr w 110))]) C dX4_readPoem_177 (by decide) rfl ?_
              refine q_aload_n C 5 dX4_readPoem_178 rfl ?_
              refine q_dup C dX4_readPoem_179 rfl ?_
              refine q_get (T := TX4) (i := 9) C kd110 (by decide) rfl uws4 (by decide) wd_874 rfl dX4_readPoem_180 ?_
              refine q_top (z' := j) (by simp (disch := omega) only [up_k, up_j, up_eq]; first | done | exact h9j) ?_
              refine q_iconst C 1 dX4_readPoem_183 ?_
              refine q_iadd C dX4_readPoem_184 ?_
              refine q_put (T := TX4) (tyX := tyX4) (i := 9) (j := 9) (z := (j + 1)) (ty := .int) C rfl kd110 (by decide) rfl uws4 tyX4_ok nmX4 (by decide) (kd_ln.2.2.2.2 kd110) wd_874 rfl rfl rfl rfl (fsS_4_9 w _ _ _) (Nat.le_of_ble_eq_true rfl) dX4_readPoem_185 ?_
              have hJ10 := MJ.fld (i := 9) (z := j + 1) hJ7 ⟨by decide, by decide, by decide⟩
              refine q_goto C 19 dX4_readPoem_188 (by decide) ?_
              have hstp : stp (wNum s z) (A.B j) = some (clo (wNum s z)) := by first | (exfalso; omega) | exact rp_44 (by omega) (by omega) hfz
              have hRVn := stp_v (stp_v9 hRV hfz) hstp
              refine q_lv (lv' := [(0, .ref (adr w 110)), (1, .int (iI s.l)), (2, .int (iI (s.o + 1)))]) [5, 1, 0] rfl ?_
              exact ih19 (j + 1) (clo (wNum s z)) (up (up (up (up (up G1 110 10 (orL (G1 110 10) (shlL 1 z))) 117 s.f z) 118 s.f s.l) 110 11 (s.f + 1)) 110 9 (j + 1)) (⟨by omega, by omega, rdp_s (by omega) hrd2 hstp, rfl, hRVn, hJ10, up_eq, by rw [up_j (by decide)]; exact up_eq, rp_pd hpd hfN, rp_sb hbn hfz⟩) (by omega)
            · refine q_iload_n C 4 dX4_readPoem_130 rfl ?_
              refine q_iconst C 3 dX4_readPoem_131 ?_
              refine q_icmp_ge C 139 dX4_readPoem_132 ⟨by omega, by omega⟩ ⟨by decide, by decide⟩ (by decide) (fun h132 => ?_) (fun h132 => ?_)
              · refine q_iconst C 0 dX4_readPoem_139 ?_
                refine q_istore (lv' := [(5, .int (iI 0)), (4, .int (iI 1)), (2, .int (iI (s.o + 1))), (3, .int (iI z)), (0, .ref (adr w 110)), (1, .int (iI s.l))]) C dX4_readPoem_140 (by decide) rfl ?_
                refine q_iload C 1 dX4_readPoem_142 rfl ?_
                refine q_if_ne C 154 dX4_readPoem_144 ⟨by decide, by decide⟩  (by decide) (fun _ => ?_) (fun h => absurd h (by decide))
                refine q_iload_n C 5 dX4_readPoem_154 rfl ?_
                refine q_iload C 0 dX4_readPoem_155 rfl ?_
                refine q_if_eq C 164 dX4_readPoem_157 ⟨by decide, by decide⟩  (by decide) (fun _ => ?_) (fun h => absurd h (by decide))
                refine q_iconst C 0 dX4_readPoem_164 ?_
                refine q_iadd C dX4_readPoem_165 ?_
                refine q_top (z' := s.l) (by rw [show s.l + 0 = s.l by omega]) ?_
                refine q_istore_n (lv' := [(1, .int (iI s.l)), (5, .int (iI 0)), (4, .int (iI 1)), (2, .int (iI (s.o + 1))), (3, .int (iI z)), (0, .ref (adr w 110))]) C dX4_readPoem_166 (by decide) rfl ?_
                refine q_iload C 1 dX4_readPoem_167 rfl ?_
                refine q_if_eq C 176 dX4_readPoem_169 ⟨by decide, by decide⟩  (by decide) (fun _ => ?_) (fun h => absurd h (by decide))
                refine q_iload_n C 3 dX4_readPoem_176 rfl ?_
                refine q_istore_n (lv' := [(2, .int (iI (s.o + 1))), (1, .int (iI s.l)), (5, .int (iI 0)), (4, .int (iI 1)), (3, .int (iI z)), (0, .ref (adr w 110))]) C dX4_readPoem_177 (by decide) rfl ?_
                refine q_aload_n C 5 dX4_readPoem_178 rfl ?_
                refine q_dup C dX4_readPoem_179 rfl ?_
                refine q_get (T := TX4) (i := 9) C kd110 (by decide) rfl uws4 (by decide) wd_874 rfl dX4_readPoem_180 ?_
                refine q_top (z' := j) (by simp (disch := omega) only [up_k, up_j, up_eq]; first | done | exact h9j) ?_
                refine q_iconst C 1 dX4_readPoem_183 ?_
                refine q_iadd C dX4_readPoem_184 ?_
                refine q_put (T := TX4) (tyX := tyX4) (i := 9) (j := 9) (z := (j + 1)) (ty := .int) C rfl kd110 (by decide) rfl uws4 tyX4_ok nmX4 (by decide) (kd_ln.2.2.2.2 kd110) wd_874 rfl rfl rfl rfl (fsS_4_9 w _ _ _) (Nat.le_of_ble_eq_true rfl) dX4_readPoem_185 ?_
                have hJ11 := MJ.fld (i := 9) (z := j + 1) hJ7 ⟨by decide, by decide, by decide⟩
                refine q_goto C 19 dX4_readPoem_188 (by decide) ?_
                have hstp : stp (wNum s z) (A.B j) = some (clo (wNum s z)) := by first | (exfalso; omega) | exact rp_44 (by omega) (by omega) hfz
                have hRVn := stp_v (stp_v9 hRV hfz) hstp
                refine q_lv (lv' := [(0, .ref (adr w 110)), (1, .int (iI s.l)), (2, .int (iI (s.o + 1)))]) [5, 1, 0] rfl ?_
                exact ih19 (j + 1) (clo (wNum s z)) (up (up (up (up (up G1 110 10 (orL (G1 110 10) (shlL 1 z))) 117 s.f z) 118 s.f s.l) 110 11 (s.f + 1)) 110 9 (j + 1)) (⟨by omega, by omega, rdp_s (by omega) hrd2 hstp, rfl, hRVn, hJ11, up_eq, by rw [up_j (by decide)]; exact up_eq, rp_pd hpd hfN, rp_sb hbn hfz⟩) (by omega)
              · refine q_iconst C 1 dX4_readPoem_135 ?_
                refine q_goto C 140 dX4_readPoem_136 (by decide) ?_
                refine q_istore (lv' := [(5, .int (iI 1)), (4, .int (iI 1)), (2, .int (iI (s.o + 1))), (3, .int (iI z)), (0, .ref (adr w 110)), (1, .int (iI s.l))]) C dX4_readPoem_140 (by decide) rfl ?_
                refine q_iload C 1 dX4_readPoem_142 rfl ?_
                refine q_if_ne C 154 dX4_readPoem_144 ⟨by decide, by decide⟩  (by decide) (fun _ => ?_) (fun h => absurd h (by decide))
                refine q_iload_n C 5 dX4_readPoem_154 rfl ?_
                refine q_iload C 0 dX4_readPoem_155 rfl ?_
                refine q_if_eq C 164 dX4_readPoem_157 ⟨by decide, by decide⟩  (by decide) (fun h => absurd h (by decide)) (fun _ => ?_)
                refine q_iconst C 1 dX4_readPoem_160 ?_
                refine q_goto C 165 dX4_readPoem_161 (by decide) ?_
                refine q_iadd C dX4_readPoem_165 ?_
                refine q_istore_n (lv' := [(1, .int (iI (s.l + 1))), (5, .int (iI 1)), (4, .int (iI 1)), (2, .int (iI (s.o + 1))), (3, .int (iI z)), (0, .ref (adr w 110))]) C dX4_readPoem_166 (by decide) rfl ?_
                refine q_iload C 1 dX4_readPoem_167 rfl ?_
                refine q_if_eq C 176 dX4_readPoem_169 ⟨by decide, by decide⟩  (by decide) (fun h => absurd h (by decide)) (fun _ => ?_)
                refine q_iconst C 0 dX4_readPoem_172 ?_
                refine q_goto C 177 dX4_readPoem_173 (by decide) ?_
                refine q_istore_n (lv' := [(2, .int (iI 0)), (1, .int (iI (s.l + 1))), (5, .int (iI 1)), (4, .int (iI 1)), (3, .int (iI z)), (0, .ref (adr w 110))]) C dX4_readPoem_177 (by decide) rfl ?_
                refine q_aload_n C 5 dX4_readPoem_178 rfl ?_
                refine q_dup C dX4_readPoem_179 rfl ?_
                refine q_get (T := TX4) (i := 9) C kd110 (by decide) rfl uws4 (by decide) wd_874 rfl dX4_readPoem_180 ?_
                refine q_top (z' := j) (by simp (disch := omega) only [up_k, up_j, up_eq]; first | done | exact h9j) ?_
                refine q_iconst C 1 dX4_readPoem_183 ?_
                refine q_iadd C dX4_readPoem_184 ?_
                refine q_put (T := TX4) (tyX := tyX4) (i := 9) (j := 9) (z := (j + 1)) (ty := .int) C rfl kd110 (by decide) rfl uws4 tyX4_ok nmX4 (by decide) (kd_ln.2.2.2.2 kd110) wd_874 rfl rfl rfl rfl (fsS_4_9 w _ _ _) (Nat.le_of_ble_eq_true rfl) dX4_readPoem_185 ?_
                have hJ12 := MJ.fld (i := 9) (z := j + 1) hJ7 ⟨by decide, by decide, by decide⟩
                refine q_goto C 19 dX4_readPoem_188 (by decide) ?_
                have hstp : stp (wNum s z) (A.B j) = some (wLin (clo (wNum s z))) := by first | (exfalso; omega) | exact rp_47 (by omega) (by omega) hfz
                have hRVn := stp_v (stp_v9 hRV hfz) hstp
                refine q_lv (lv' := [(0, .ref (adr w 110)), (1, .int (iI (s.l + 1))), (2, .int (iI 0))]) [5, 1, 0] rfl ?_
                exact ih19 (j + 1) (wLin (clo (wNum s z))) (up (up (up (up (up G1 110 10 (orL (G1 110 10) (shlL 1 z))) 117 s.f z) 118 s.f s.l) 110 11 (s.f + 1)) 110 9 (j + 1)) (⟨by omega, by omega, rdp_s (by omega) hrd2 hstp, rfl, hRVn, hJ12, up_eq, by rw [up_j (by decide)]; exact up_eq, rp_pd hpd hfN, rp_sb hbn hfz⟩) (by omega)
      · refine q_iconst C 1 dX4_readPoem_87 ?_
        refine q_zret C dX4_readPoem_88 (by decide) ?_
        have hfe := fe_is (B := A.B) (n := A.len) (by omega) hjn hrd2 (fun q => by omega)
        have hrs := hfe.2 (by omega)
        refine ⟨?_, hJ7, Or.inl ⟨rfl, by omega, by rw [hrs]; exact hfz, ?_⟩⟩
        · simp (disch := omega) only [up_k, up_j, up_eq]; exact h9j.trans hfe.1
        · rw [hrs]; exact rp_PD h11n hpd hfN hfz hRV
    · refine q_iconst C 0 dX4_readPoem_29 ?_
      refine q_zret C dX4_readPoem_30 (by decide) ?_
      exfalso; omega

set_option maxRecDepth 100000 in
set_option maxHeartbeats 4000000 in
theorem k_X4_firstError (l : Launch) {w : WP} {F : FF} {A : AS} (hM : MI F A) (hV : AV A)  : Con l yX4_firstError cX4_firstError 1 (some .int) 4 w [.ref (adr w 110)] F (QI w (fun z F' => z = fe A.B A.len ∧ MJ F F' A 0)) := by
  refine Con.mk (lv := [(0, .ref (adr w 110))]) (by decide) (Nat.le_of_ble_eq_true rfl) rfl ?_
  intro pg ev s0 mi be me co C hz
  have hr : F 111 = A.r := hM.r
  have hI : Iv A.r := hM.iv
  have hJ := MJ.refl hM
  have hnb := hV.1
  unfold nb at hnb
  have hlr := hM.lr
  have hnr := hM.s.2.1
  have qfe := fe_range (B := A.B) hlr.1
  refine q_aload_n C 0 dX4_firstError_0 rfl ?_
  refine q_iconst C 0 dX4_firstError_1 ?_
  refine q_put (T := TX4) (tyX := tyX4) (i := 8) (j := 8) (z := 0) (ty := .int) C rfl kd110 (by decide) rfl uws4 tyX4_ok nmX4 (by decide) (kd_ln.2.2.2.2 kd110) wd_873 rfl rfl rfl rfl (fsS_4_8 w _ _ _) (Nat.le_of_ble_eq_true rfl) dX4_firstError_2 ?_
  have hJ1 := MJ.thr (z := 0) hJ
  have hr1 : (up F 110 8 0) 111 = A.r := hJ1.1.r
  refine q_aload_n C 0 dX4_firstError_5 rfl ?_
  refine q_cI (q_runV (As := []) (rest := []) C (k_X4_readPoem (F := (up F 110 8 0)) l hJ1.1 hV) kd110 (by decide) rfl wd_1103 wd_1102 wd_50 wd_81 wd_1100 nd_X4_readPoem rfl (by decide) ⟨Nat.zero_le _, Nat.zero_le _⟩ rfl (Nat.le_of_ble_eq_true rfl) dX4_firstError_6) ?_
  rintro z G1 ⟨h9p, hJp, ⟨hz1, hfe1, hfr1, hPD⟩ | ⟨hz1, hnf⟩⟩
  all_goals subst hz1
  all_goals have hJr := MJ.cmp hJ1 hJp
  all_goals have hr1 : G1 111 = A.r := hJr.1.r
  · refine q_if_eq C 19 dX4_firstError_9 ⟨by decide, by decide⟩  (by decide) (fun h => absurd h (by decide)) (fun _ => ?_)
    refine q_aload_n C 0 dX4_firstError_12 rfl ?_
    refine q_get (T := TX4) (i := 7) C kd110 (by decide) rfl uws4 (by decide) wd_872 rfl dX4_firstError_13 ?_
    refine q_top (z' := A.len) (hJr.1.l) ?_
    refine q_goto C 23 dX4_firstError_16 (by decide) ?_
    refine q_iret C dX4_firstError_23 ?_
    exact ⟨hfe1.symm, hJr⟩
  · refine q_if_eq C 19 dX4_firstError_9 ⟨by decide, by decide⟩  (by decide) (fun _ => ?_) (fun h => absurd h (by decide))
    refine q_aload_n C 0 dX4_firstError_19 rfl ?_
    refine q_get (T := TX4) (i := 9) C kd110 (by decide) rfl uws4 (by decide) wd_874 rfl dX4_firstError_20 ?_
    refine q_top (z' := fe A.B A.len) h9p ?_
    refine q_iret C dX4_firstError_23 ?_
    exact ⟨rfl, hJr⟩

set_option maxRecDepth 100000 in
set_option maxHeartbeats 4000000 in
theorem k_X4_load (l : Launch) {w : WP} {F : FF} {A : AS} {d : Int} (hM : MI F A) (hV : AV A) (hd : inR d) : Con l yX4_load cX4_load 7 (some .int) 5 w [.ref (adr w 110), .int (iI d)] F (QI w (fun z F' => (loadT A d = 0 ∧ z = loadZ A d ∧ MJ F F' (loadN A d) 0) ∨ (loadT A d ≠ 0 ∧ MJ F F' A (loadT A d)))) := by
  refine Con.mk (lv := [(0, .ref (adr w 110)), (1, .int (iI d))]) (by decide) (Nat.le_of_ble_eq_true rfl) rfl ?_
  intro pg ev s0 mi be me co C hz
  have hr : F 111 = A.r := hM.r
  have hI : Iv A.r := hM.iv
  have hJ := MJ.refl hM
  have hnb := hV.1
  unfold nb at hnb
  have hlr := hM.lr
  have hnr := hM.s.2.1
  obtain ⟨hd1, hd2⟩ := id hd
  refine q_aload_n C 0 dX4_load_0 rfl ?_
  refine q_iconst C 0 dX4_load_1 ?_
  refine q_put (T := TX4) (tyX := tyX4) (i := 8) (j := 8) (z := 0) (ty := .int) C rfl kd110 (by decide) rfl uws4 tyX4_ok nmX4 (by decide) (kd_ln.2.2.2.2 kd110) wd_873 rfl rfl rfl rfl (fsS_4_8 w _ _ _) (Nat.le_of_ble_eq_true rfl) dX4_load_2 ?_
  have hJ1 := MJ.thr (z := 0) hJ
  have hr1 : (up F 110 8 0) 111 = A.r := hJ1.1.r
  refine q_iload_n C 1 dX4_load_5 rfl ?_
  refine q_cI (q_runS (As := [.int (iI d)]) (rest := []) C (k_X4_isDoor l (x := d) ⟨by omega, by omega⟩) wd_936 wd_935 wd_81 wd_934 nd_X4_isDoor rfl (by decide) ⟨Nat.zero_le _, Nat.zero_le _⟩ rfl (Nat.le_of_ble_eq_true rfl) dX4_load_6) ?_
  rintro z F' ⟨⟨rfl, hq6⟩ | ⟨rfl, hq6⟩, rfl⟩
  · refine q_if_ne C 18 dX4_load_9 ⟨by decide, by decide⟩  (by decide) (fun _ => ?_) (fun h => absurd h (by decide))
    refine q_aload_n C 0 dX4_load_18 rfl ?_
    refine q_cI (q_runV (As := []) (rest := []) C (k_X4_readPoem (F := (up F 110 8 0)) l hJ1.1 hV) kd110 (by decide) rfl wd_1103 wd_1102 wd_50 wd_81 wd_1100 nd_X4_readPoem rfl (by decide) ⟨Nat.zero_le _, Nat.zero_le _⟩ rfl (Nat.le_of_ble_eq_true rfl) dX4_load_19) ?_
    rintro z G1 ⟨h9p, hJp, ⟨hz1, hfe1, hfr1, hPD⟩ | ⟨hz1, hnf⟩⟩
    all_goals subst hz1
    all_goals have hJr := MJ.cmp hJ1 hJp
    all_goals have hr1 : G1 111 = A.r := hJr.1.r
    · refine q_if_ne C 31 dX4_load_22 ⟨by decide, by decide⟩  (by decide) (fun _ => ?_) (fun h => absurd h (by decide))
      refine q_aload_n C 0 dX4_load_31 rfl ?_
      refine q_cV (q_runV (As := []) (rest := []) C (k_X4_save (F := G1) l hr1 hI hJr.1.s) kd110 (by decide) rfl wd_952 wd_951 wd_26 wd_81 wd_949 nd_X4_save rfl (by decide) ⟨Nat.zero_le _, Nat.zero_le _⟩ rfl (Nat.le_of_ble_eq_true rfl) dX4_load_32) ?_
      rintro G2 ⟨hSG2, hEG2, hfG2⟩
      have hJG2 := MJ.sav hJr hSG2 hEG2 hfG2
      refine q_aload_n C 0 dX4_load_35 rfl ?_
      refine q_iload_n C 1 dX4_load_36 rfl ?_
      refine q_cI (q_runV (As := [.int (iI d)]) (rest := []) C (k_X4_emptyDoor (F := G2) l hEG2 hI (d := d) ⟨by omega, by omega⟩) kd110 (by decide) rfl wd_1009 wd_1008 wd_35 wd_81 wd_1006 nd_X4_emptyDoor rfl (by decide) ⟨Nat.zero_le _, Nat.zero_le _⟩ rfl (Nat.le_of_ble_eq_true rfl) dX4_load_37) ?_
      rintro z G3 ⟨rfl, hEG3, hIG3, hfG3⟩
      have hJG3 := MJ.wr hJG2 hEG3 hIG3 hfG3
      have hJ0 := hJG3
      obtain ⟨h11P, hfb, hWL0⟩ := hPD
      have h11L : G3 110 11 = (clo (rst A.B A.len)).f := (congrFun (hfG3 110 (by decide)) 11).trans ((hfG2.2 11 (by decide)).trans h11P)
      have hWL : ∀ j, 0 ≤ j → j < (clo (rst A.B A.len)).f → (G3 117 j = (clo (rst A.B A.len)).W j ∧ G3 118 j = (clo (rst A.B A.len)).L j) ∧ (0 ≤ (clo (rst A.B A.len)).W j ∧ (clo (rst A.B A.len)).W j < 40) ∧ (0 ≤ (clo (rst A.B A.len)).L j ∧ (clo (rst A.B A.len)).L j ≤ 3) := fun j a c => by rw [hfG3 117 (by decide), hfG3 118 (by decide), hfG2.1 117 (by decide) (by decide), hfG2.1 118 (by decide) (by decide)]; exact hWL0 j a c
      have hIc := hIG3
      refine q_istore_n (lv' := [(2, .int (iI (dwo A.r d))), (0, .ref (adr w 110)), (1, .int (iI d))]) C dX4_load_40 (by decide) rfl ?_
      refine q_iconst C 0 dX4_load_41 ?_
      refine q_istore_n (lv' := [(3, .int (iI 0)), (2, .int (iI (dwo A.r d))), (0, .ref (adr w 110)), (1, .int (iI d))]) C dX4_load_42 (by decide) rfl ?_
      refine q_iconst C 1 dX4_load_43 ?_
      refine q_istore (lv' := [(4, .int (iI 1)), (3, .int (iI 0)), (2, .int (iI (dwo A.r d))), (0, .ref (adr w 110)), (1, .int (iI d))]) C dX4_load_44 (by decide) rfl ?_
      refine q_iconst C 0 dX4_load_46 ?_
      refine q_istore (lv' := [(5, .int (iI 0)), (4, .int (iI 1)), (3, .int (iI 0)), (2, .int (iI (dwo A.r d))), (0, .ref (adr w 110)), (1, .int (iI d))]) C dX4_load_47 (by decide) rfl ?_
      refine q_lv (lv' := [(0, .ref (adr w 110)), (1, .int (iI d)), (3, .int (iI 0)), (4, .int (iI 1)), (5, .int (iI 0))]) [4, 5, 2, 1, 0] rfl ?_
      refine wf5 (P := fun (k : Int) (t : Int) (n : Int) (q : Rw) (G : FF) => Wq pg l ev _ s0 mi _ be me co _ w _ _ _ 49 [(0, .ref (adr w 110)), (1, .int (iI d)), (3, .int (iI n)), (4, .int (iI t)), (5, .int (iI k))] [] G) (I := fun (k : Int) (t : Int) (n : Int) (q : Rw) (G : FF) => 0 ≤ k ∧ k ≤ (clo (rst A.B A.len)).f ∧ (t = 1 ∧ ldS (clo (rst A.B A.len)) d (clr A.r d) k.toNat = (q, k) ∧ n = k ∨ t = 0 ∧ ldS (clo (rst A.B A.len)) d (clr A.r d) (clo (rst A.B A.len)).f.toNat = (q, n)) ∧ (0 ≤ n ∧ n ≤ 24) ∧ Iv q ∧ MJ F G (A.sav.wr (pts q n)) 0 ∧ FrW G3 G) (μ := fun (k : Int) (t : Int) (n : Int) (q : Rw) (G : FF) => ((clo (rst A.B A.len)).f - k).toNat) ?_ 0 1 0 (clr A.r d) G3 (⟨by omega, by omega, Or.inl ⟨rfl, rfl, rfl⟩, by omega, hIc, by rw [pts_0]; exact hJ0, FrW.refl⟩)
      intro k t n q G hI' ih49
      (try dsimp only at hI'); (try dsimp only at ih49); (try dsimp only)
      obtain ⟨hk0, hk1, ht, hn9, hIq, hJG, hGf⟩ := hI'
      have hrG : G 111 = pts q n := hJG.1.r
      have hIG : Iv (pts q n) := pts_iv hIq
      refine q_iload C 4 dX4_load_49 rfl ?_
      refine q_aload_n C 0 dX4_load_51 rfl ?_
      refine q_get (T := TX4) (i := 11) C kd110 (by decide) rfl uws4 (by decide) wd_876 rfl dX4_load_52 ?_
      refine q_top (z' := (clo (rst A.B A.len)).f) ((congrFun (hGf 110 (by decide)) 11).trans h11L) ?_
      refine q_icmp_ge C 171 dX4_load_55 ⟨by omega, by omega⟩ ⟨by omega, by omega⟩ (by decide) (fun h55 => ?_) (fun h55 => ?_)
      · have hlA : ldA A d = (q, n) := ld_end ht (fun _ => by omega)
        refine q_aload_n C 0 dX4_load_171 rfl ?_
        refine q_iconst C 0 dX4_load_172 ?_
        refine q_put (T := TX4) (tyX := tyX4) (i := 7) (j := 7) (z := 0) (ty := .int) C rfl kd110 (by decide) rfl uws4 tyX4_ok nmX4 (by decide) (kd_ln.2.2.2.2 kd110) wd_872 rfl rfl rfl rfl (fsS_4_7 w _ _ _) (Nat.le_of_ble_eq_true rfl) dX4_load_173 ?_
        have hJE := MJ.txt (P := (0, A.B)) (G' := (up G 110 7 0)) hJG (fun q a c => up_k a) (up_j (by decide)) (up_j (by decide)) up_eq ⟨Int.le_refl _, by show (0 : Int) ≤ 60; decide⟩ (fun i a c => by have c2 : i < 0 := c; omega)
        refine q_iload_n C 2 dX4_load_176 rfl ?_
        refine q_iret C dX4_load_177 ?_
        exact Or.inl ⟨(by unfold loadT; rw [if_neg (by omega), if_neg (by omega)]), (by unfold loadZ; rw [hlA]), (by unfold loadN; rw [hlA]; exact hJE)⟩
      · refine q_iload C 3 dX4_load_58 rfl ?_
        refine q_if_eq C 171 dX4_load_60 ⟨by omega, by omega⟩  (by decide) (fun h60 => ?_) (fun h60 => ?_)
        · have hlA : ldA A d = (q, n) := ld_end ht (fun _ => by omega)
          refine q_aload_n C 0 dX4_load_171 rfl ?_
          refine q_iconst C 0 dX4_load_172 ?_
          refine q_put (T := TX4) (tyX := tyX4) (i := 7) (j := 7) (z := 0) (ty := .int) C rfl kd110 (by decide) rfl uws4 tyX4_ok nmX4 (by decide) (kd_ln.2.2.2.2 kd110) wd_872 rfl rfl rfl rfl (fsS_4_7 w _ _ _) (Nat.le_of_ble_eq_true rfl) dX4_load_173 ?_
          have hJE := MJ.txt (P := (0, A.B)) (G' := (up G 110 7 0)) hJG (fun q a c => up_k a) (up_j (by decide)) (up_j (by decide)) up_eq ⟨Int.le_refl _, by show (0 : Int) ≤ 60; decide⟩ (fun i a c => by have c2 : i < 0 := c; omega)
          refine q_iload_n C 2 dX4_load_176 rfl ?_
          refine q_iret C dX4_load_177 ?_
          exact Or.inl ⟨(by unfold loadT; rw [if_neg (by omega), if_neg (by omega)]), (by unfold loadZ; rw [hlA]), (by unfold loadN; rw [hlA]; exact hJE)⟩
        · refine q_iconst C 4 dX4_load_63 ?_
          refine q_iload_n C 1 dX4_load_64 rfl ?_
          refine q_imul C dX4_load_65 ?_
          refine q_aload_n C 0 dX4_load_66 rfl ?_
          refine q_get (T := TX4) (i := 13) C kd110 (by decide) rfl uws4 (by decide) wd_878 rfl dX4_load_67 ?_
          refine q_iload C 4 dX4_load_70 rfl ?_
          refine q_iald C kd118 ⟨by omega, by rw [ln118]; omega⟩ dX4_load_72 ?_
          have hwl := hWL k (by omega) (by omega)
          refine q_top (z' := (clo (rst A.B A.len)).L k) ((congrFun (hGf 118 (by decide)) k).trans hwl.1.2) ?_
          refine q_iadd C dX4_load_73 ?_
          refine q_istore (lv' := [(6, .int (iI ((4 * d) + ((clo (rst A.B A.len)).L k)))), (0, .ref (adr w 110)), (1, .int (iI d)), (3, .int (iI n)), (4, .int (iI t)), (5, .int (iI k))]) C dX4_load_74 (by decide) rfl ?_
          refine q_aload_n C 1 dX4_load_76 rfl ?_
          refine q_aload_n C 1 dX4_load_77 rfl ?_
          refine q_get (T := TX4) (i := 12) C kd110 (by decide) rfl uws4 (by decide) wd_877 rfl dX4_load_78 ?_
          refine q_iload C 5 dX4_load_81 rfl ?_
          refine q_iald C kd117 ⟨by omega, by rw [ln117]; omega⟩ dX4_load_83 ?_
          have hwl := hWL k (by omega) (by omega)
          refine q_top (z' := (clo (rst A.B A.len)).W k) ((congrFun (hGf 117 (by decide)) k).trans hwl.1.1) ?_
          refine q_cI (q_runV (As := [.int (iI ((clo (rst A.B A.len)).W k))]) (rest := []) C (k_X4_lineOfWord (F := G) l hrG hIG (x := (clo (rst A.B A.len)).W k) ⟨by omega, by omega⟩) kd110 (by decide) rfl wd_944 wd_943 wd_24 wd_81 wd_941 nd_X4_lineOfWord rfl (by decide) ⟨Nat.zero_le _, Nat.zero_le _⟩ rfl (Nat.le_of_ble_eq_true rfl) dX4_load_84) ?_
          rintro z F' ⟨hz8, rfl⟩
          rw [home_pts hIq] at hz8
          subst hz8
          have qh8 := home_range q ((clo (rst A.B A.len)).W k)
          refine q_iconst C (-1) dX4_load_87 ?_
          refine q_icmp_ne C 120 dX4_load_88 ⟨by omega, by omega⟩ ⟨by decide, by decide⟩ (by decide) (fun h88 => ?_) (fun h88 => ?_)
          · refine q_iconst C 0 dX4_load_120 ?_
            refine q_istore (lv' := [(4, .int (iI 0)), (6, .int (iI ((4 * d) + ((clo (rst A.B A.len)).L k)))), (0, .ref (adr w 110)), (1, .int (iI d)), (3, .int (iI n)), (5, .int (iI k))]) C dX4_load_121 (by decide) rfl ?_
            refine q_iload C 0 dX4_load_123 rfl ?_
            refine q_if_eq C 165 dX4_load_125 ⟨by decide, by decide⟩  (by decide) (fun _ => ?_) (fun h => absurd h (by decide))
            refine q_iinc (lv' := [(5, .int (iI (k + 1))), (4, .int (iI 0)), (6, .int (iI ((4 * d) + ((clo (rst A.B A.len)).L k)))), (0, .ref (adr w 110)), (1, .int (iI d)), (3, .int (iI n))]) C 5 dX4_load_165 rfl (by decide) rfl ?_
            refine q_goto C 49 dX4_load_168 (by decide) ?_
            have htl : t = 1 ∧ ldS (clo (rst A.B A.len)) d (clr A.r d) k.toNat = (q, k) ∧ n = k := by rcases ht with h | h; exact h; exact absurd h.1 (by omega)
            obtain ⟨_, htl, hnk⟩ := htl
            refine q_lv (lv' := [(0, .ref (adr w 110)), (1, .int (iI d)), (3, .int (iI n)), (4, .int (iI 0)), (5, .int (iI (k + 1)))]) [3, 4, 5, 1, 0] rfl ?_
            exact ih49 (k + 1) 0 n q G (⟨by omega, by omega, Or.inr ⟨rfl, by have hst := ldS_stop hk0 htl (fun g => by have g1 := g.1; have g2 := g.2; omega) ((clo (rst A.B A.len)).f - k).toNat; rw [show k.toNat + ((clo (rst A.B A.len)).f - k).toNat = (clo (rst A.B A.len)).f.toNat by omega] at hst; rw [hst, hnk]⟩, by omega, hIq, hJG, hGf⟩) (by omega)
          · refine q_aload_n C 1 dX4_load_91 rfl ?_
            refine q_aload_n C 1 dX4_load_92 rfl ?_
            refine q_get (T := TX4) (i := 12) C kd110 (by decide) rfl uws4 (by decide) wd_877 rfl dX4_load_93 ?_
            refine q_iload C 5 dX4_load_96 rfl ?_
            refine q_iald C kd117 ⟨by omega, by rw [ln117]; omega⟩ dX4_load_98 ?_
            have hwl := hWL k (by omega) (by omega)
            refine q_top (z' := (clo (rst A.B A.len)).W k) ((congrFun (hGf 117 (by decide)) k).trans hwl.1.1) ?_
            refine q_iload C 0 dX4_load_99 rfl ?_
            refine q_aload_n C 1 dX4_load_101 rfl ?_
            refine q_get (T := TX4) (i := 0) C kd110 (by decide) rfl uws4 (by decide) wd_865 rfl dX4_load_102 ?_
            refine q_iconst C 0 dX4_load_105 ?_
            refine q_iload C 0 dX4_load_106 rfl ?_
            refine q_iadd C dX4_load_108 ?_
            refine q_iald C kd111 ⟨by omega, by rw [ln111]; omega⟩ dX4_load_109 ?_
            refine q_top (z' := q ((4 * d) + ((clo (rst A.B A.len)).L k))) ((congrFun hrG _).trans (by rw [show 0 + ((4 * d) + ((clo (rst A.B A.len)).L k)) = (4 * d) + ((clo (rst A.B A.len)).L k) by omega]; exact if_neg (by omega))) ?_
            have q_6 := hIq.sz (l := (4 * d) + ((clo (rst A.B A.len)).L k)) (by omega) (by omega)
            refine q_cI (q_runV (As := [.int (iI ((clo (rst A.B A.len)).W k)), .int (iI ((4 * d) + ((clo (rst A.B A.len)).L k))), .int (iI (q ((4 * d) + ((clo (rst A.B A.len)).L k))))]) (rest := []) C (k_X4_reason (F := G) l hrG hIG (x := (clo (rst A.B A.len)).W k) (y := (4 * d) + ((clo (rst A.B A.len)).L k)) (p := q ((4 * d) + ((clo (rst A.B A.len)).L k))) ⟨by omega, by omega⟩ ⟨by omega, by omega⟩ ⟨by omega, by rw [pts_lo (by omega)]; omega⟩) kd110 (by decide) rfl wd_956 wd_955 wd_27 wd_81 wd_953 nd_X4_reason rfl (by decide) ⟨Nat.zero_le _, Nat.zero_le _⟩ rfl (Nat.le_of_ble_eq_true rfl) dX4_load_110) ?_
            rintro z F' ⟨hz7, rfl⟩
            rw [rea_pts hIq ⟨by omega, by omega⟩ ⟨by omega, by omega⟩] at hz7
            subst hz7
            have qr7 := rea_range q ((clo (rst A.B A.len)).W k) ((4 * d) + ((clo (rst A.B A.len)).L k)) (q ((4 * d) + ((clo (rst A.B A.len)).L k)))
            refine q_if_ne C 120 dX4_load_113 ⟨by omega, by omega⟩  (by decide) (fun h113 => ?_) (fun h113 => ?_)
            · refine q_iconst C 0 dX4_load_120 ?_
              refine q_istore (lv' := [(4, .int (iI 0)), (6, .int (iI ((4 * d) + ((clo (rst A.B A.len)).L k)))), (0, .ref (adr w 110)), (1, .int (iI d)), (3, .int (iI n)), (5, .int (iI k))]) C dX4_load_121 (by decide) rfl ?_
              refine q_iload C 0 dX4_load_123 rfl ?_
              refine q_if_eq C 165 dX4_load_125 ⟨by decide, by decide⟩  (by decide) (fun _ => ?_) (fun h => absurd h (by decide))
              refine q_iinc (lv' := [(5, .int (iI (k + 1))), (4, .int (iI 0)), (6, .int (iI ((4 * d) + ((clo (rst A.B A.len)).L k)))), (0, .ref (adr w 110)), (1, .int (iI d)), (3, .int (iI n))]) C 5 dX4_load_165 rfl (by decide) rfl ?_
              refine q_goto C 49 dX4_load_168 (by decide) ?_
              have htl : t = 1 ∧ ldS (clo (rst A.B A.len)) d (clr A.r d) k.toNat = (q, k) ∧ n = k := by rcases ht with h | h; exact h; exact absurd h.1 (by omega)
              obtain ⟨_, htl, hnk⟩ := htl
              refine q_lv (lv' := [(0, .ref (adr w 110)), (1, .int (iI d)), (3, .int (iI n)), (4, .int (iI 0)), (5, .int (iI (k + 1)))]) [3, 4, 5, 1, 0] rfl ?_
              exact ih49 (k + 1) 0 n q G (⟨by omega, by omega, Or.inr ⟨rfl, by have hst := ldS_stop hk0 htl (fun g => by have g1 := g.1; have g2 := g.2; omega) ((clo (rst A.B A.len)).f - k).toNat; rw [show k.toNat + ((clo (rst A.B A.len)).f - k).toNat = (clo (rst A.B A.len)).f.toNat by omega] at hst; rw [hst, hnk]⟩, by omega, hIq, hJG, hGf⟩) (by omega)
            · refine q_iconst C 1 dX4_load_116 ?_
              refine q_goto C 121 dX4_load_117 (by decide) ?_
              refine q_istore (lv' := [(4, .int (iI 1)), (6, .int (iI ((4 * d) + ((clo (rst A.B A.len)).L k)))), (0, .ref (adr w 110)), (1, .int (iI d)), (3, .int (iI n)), (5, .int (iI k))]) C dX4_load_121 (by decide) rfl ?_
              refine q_iload C 0 dX4_load_123 rfl ?_
              refine q_if_eq C 165 dX4_load_125 ⟨by decide, by decide⟩  (by decide) (fun h => absurd h (by decide)) (fun _ => ?_)
              have qlt := rea_lt hIq (l := 4 * d + (clo (rst A.B A.len)).L k) ⟨by omega, by omega⟩ (by omega)
              refine q_aload_n C 2 dX4_load_128 rfl ?_
              refine q_aload_n C 2 dX4_load_129 rfl ?_
              refine q_get (T := TX4) (i := 12) C kd110 (by decide) rfl uws4 (by decide) wd_877 rfl dX4_load_130 ?_
              refine q_iload C 5 dX4_load_133 rfl ?_
              refine q_iald C kd117 ⟨by omega, by rw [ln117]; omega⟩ dX4_load_135 ?_
              have hwl := hWL k (by omega) (by omega)
              refine q_top (z' := (clo (rst A.B A.len)).W k) ((congrFun (hGf 117 (by decide)) k).trans hwl.1.1) ?_
              refine q_iload C 1 dX4_load_136 rfl ?_
              refine q_aload_n C 2 dX4_load_138 rfl ?_
              refine q_get (T := TX4) (i := 0) C kd110 (by decide) rfl uws4 (by decide) wd_865 rfl dX4_load_139 ?_
              refine q_iconst C 0 dX4_load_142 ?_
              refine q_iload C 1 dX4_load_143 rfl ?_
              refine q_iadd C dX4_load_145 ?_
              refine q_iald C kd111 ⟨by omega, by rw [ln111]; omega⟩ dX4_load_146 ?_
              refine q_top (z' := q ((4 * d) + ((clo (rst A.B A.len)).L k))) ((congrFun hrG _).trans (by rw [show 0 + ((4 * d) + ((clo (rst A.B A.len)).L k)) = (4 * d) + ((clo (rst A.B A.len)).L k) by omega]; exact if_neg (by omega))) ?_
              have q_7 := hIq.sz (l := (4 * d) + ((clo (rst A.B A.len)).L k)) (by omega) (by omega)
              refine q_cV (q_runV (As := [.int (iI ((clo (rst A.B A.len)).W k)), .int (iI ((4 * d) + ((clo (rst A.B A.len)).L k))), .int (iI (q ((4 * d) + ((clo (rst A.B A.len)).L k))))]) (rest := []) C (k_X4_insert (F := G) l hrG hIG (x := (clo (rst A.B A.len)).W k) (y := (4 * d) + ((clo (rst A.B A.len)).L k)) (p := q ((4 * d) + ((clo (rst A.B A.len)).L k))) ⟨by omega, by omega⟩ (by rw [home_pts hIq]; omega) ⟨by omega, by omega⟩ ⟨by omega, by rw [pts_lo (by omega)]; omega⟩ (by rw [pts_lo (by omega)]; omega)) kd110 (by decide) rfl wd_977 wd_976 wd_30 wd_81 wd_974 nd_X4_insert rfl (by decide) ⟨Nat.zero_le _, Nat.zero_le _⟩ rfl (Nat.le_of_ble_eq_true rfl) dX4_load_147) ?_
              rintro G9 ⟨hE9, hf9⟩
              have hIn := ins_iv hIq (x := (clo (rst A.B A.len)).W k) (y := (4 * d) + ((clo (rst A.B A.len)).L k)) (q := q ((4 * d) + ((clo (rst A.B A.len)).L k))) ⟨by omega, by omega⟩ (by omega) ⟨by omega, by omega⟩ ⟨by omega, by omega⟩ (by omega)
              rw [ins_pts ⟨by omega, by omega⟩ ⟨by omega, by omega⟩ (by omega)] at hE9
              refine q_aload_n C 2 dX4_load_150 rfl ?_
              refine q_get (T := TX4) (i := 0) C kd110 (by decide) rfl uws4 (by decide) wd_865 rfl dX4_load_151 ?_
              refine q_sipush C 180 dX4_load_154 (by decide) ?_
              refine q_dup2 C dX4_load_157 rfl rfl ?_
              refine q_iald C kd111 ⟨by omega, by rw [ln111]; omega⟩ dX4_load_158 ?_
              refine q_top (z' := (pts (ins q ((clo (rst A.B A.len)).W k) ((4 * d) + ((clo (rst A.B A.len)).L k)) (q ((4 * d) + ((clo (rst A.B A.len)).L k)))) n) 180) ((congrFun hE9 _).trans (congrArg (pts (ins q ((clo (rst A.B A.len)).W k) ((4 * d) + ((clo (rst A.B A.len)).L k)) (q ((4 * d) + ((clo (rst A.B A.len)).L k)))) n) (by omega))) ?_
              refine q_iconst C 1 dX4_load_159 ?_
              refine q_iadd C dX4_load_160 ?_
              refine q_iast C kd111 ⟨by omega, by rw [ln111]; omega⟩ dX4_load_161 ?_
              have hE8 : (up G9 111 180 (((pts (ins q ((clo (rst A.B A.len)).W k) ((4 * d) + ((clo (rst A.B A.len)).L k)) (q ((4 * d) + ((clo (rst A.B A.len)).L k)))) n) 180) + 1)) 111 = pts (ins q ((clo (rst A.B A.len)).W k) ((4 * d) + ((clo (rst A.B A.len)).L k)) (q ((4 * d) + ((clo (rst A.B A.len)).L k)))) (n + 1) := (ru_r hE9 (show (180 : Int) = 180 by omega)).trans pts_s
              have hJ8 := MJ.wr hJG hE8 (pts_iv hIn) (FrW.up hf9)
              have hf8 := FrW.trans hGf (FrW.up (i := 180) (z := ((pts (ins q ((clo (rst A.B A.len)).W k) ((4 * d) + ((clo (rst A.B A.len)).L k)) (q ((4 * d) + ((clo (rst A.B A.len)).L k)))) n) 180) + 1) hf9)
              refine q_iinc (lv' := [(3, .int (iI (n + 1))), (4, .int (iI 1)), (6, .int (iI ((4 * d) + ((clo (rst A.B A.len)).L k)))), (0, .ref (adr w 110)), (1, .int (iI d)), (5, .int (iI k))]) C 4 dX4_load_162 rfl (by decide) rfl ?_
              refine q_iinc (lv' := [(5, .int (iI (k + 1))), (3, .int (iI (n + 1))), (4, .int (iI 1)), (6, .int (iI ((4 * d) + ((clo (rst A.B A.len)).L k)))), (0, .ref (adr w 110)), (1, .int (iI d))]) C 5 dX4_load_165 rfl (by decide) rfl ?_
              refine q_goto C 49 dX4_load_168 (by decide) ?_
              have htl : t = 1 ∧ ldS (clo (rst A.B A.len)) d (clr A.r d) k.toNat = (q, k) ∧ n = k := by rcases ht with h | h; exact h; exact absurd h.1 (by omega)
              obtain ⟨_, htl, hnk⟩ := htl
              refine q_lv (lv' := [(0, .ref (adr w 110)), (1, .int (iI d)), (3, .int (iI (n + 1))), (4, .int (iI 1)), (5, .int (iI (k + 1)))]) [4, 5, 1, 2, 0] rfl ?_
              exact ih49 (k + 1) 1 (n + 1) (ins q ((clo (rst A.B A.len)).W k) ((4 * d) + ((clo (rst A.B A.len)).L k)) (q ((4 * d) + ((clo (rst A.B A.len)).L k)))) (up G9 111 180 (((pts (ins q ((clo (rst A.B A.len)).W k) ((4 * d) + ((clo (rst A.B A.len)).L k)) (q ((4 * d) + ((clo (rst A.B A.len)).L k)))) n) 180) + 1)) (⟨by omega, by omega, Or.inl ⟨rfl, ldS_go hk0 htl (by omega) (by omega), by omega⟩, by omega, hIn, hJ8, hf8⟩) (by omega)
    · refine q_if_ne C 31 dX4_load_22 ⟨by decide, by decide⟩  (by decide) (fun h => absurd h (by decide)) (fun _ => ?_)
      refine q_aload_n C 0 dX4_load_25 rfl ?_
      refine q_iconst C 2 dX4_load_26 ?_
      refine q_cI (q_runV (As := [.int (iI 2)]) (rest := []) C (k_X4_fails (F := G1) l (x := 2)) kd110 (by decide) rfl wd_940 wd_939 wd_23 wd_81 wd_937 nd_X4_fails rfl (by decide) ⟨Nat.zero_le _, Nat.zero_le _⟩ rfl (Nat.le_of_ble_eq_true rfl) dX4_load_27) ?_
      rintro z F9 ⟨hz9, hF9⟩
      subst hz9
      subst hF9
      have hJf := MJ.thr (z := 2) hJr
      refine q_iret C dX4_load_30 ?_
      have hT : loadT A d = 2 := (by unfold loadT; rw [if_neg (by omega), if_pos (by omega)])
      exact Or.inr ⟨by rw [hT]; decide, by rw [hT]; exact hJf⟩
  · refine q_if_ne C 18 dX4_load_9 ⟨by decide, by decide⟩  (by decide) (fun h => absurd h (by decide)) (fun _ => ?_)
    refine q_aload_n C 0 dX4_load_12 rfl ?_
    refine q_iconst C 1 dX4_load_13 ?_
    refine q_cI (q_runV (As := [.int (iI 1)]) (rest := []) C (k_X4_fails (F := (up F 110 8 0)) l (x := 1)) kd110 (by decide) rfl wd_940 wd_939 wd_23 wd_81 wd_937 nd_X4_fails rfl (by decide) ⟨Nat.zero_le _, Nat.zero_le _⟩ rfl (Nat.le_of_ble_eq_true rfl) dX4_load_14) ?_
    rintro z F9 ⟨hz9, hF9⟩
    subst hz9
    subst hF9
    have hJf := MJ.thr (z := 1) hJ1
    refine q_iret C dX4_load_17 ?_
    have hT : loadT A d = 1 := (by unfold loadT; rw [if_pos (by omega)])
    exact Or.inr ⟨by rw [hT]; decide, by rw [hT]; exact hJf⟩
