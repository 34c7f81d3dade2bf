/-! a poem as a text: the reader's steps -/
theorem kd0 : kd 0 = 3 := rfl
theorem kd85 : kd 85 = 5 := rfl
theorem kd86 : kd 86 = 2 := rfl
theorem kd87 : kd 87 = 6 := rfl
theorem kd88 : kd 88 = 5 := rfl
theorem kd89 : kd 89 = 5 := rfl
theorem ln85 : ln 85 = 60 := rfl
theorem ln87 : ln 87 = 40 := rfl
theorem ln88 : ln 88 = 24 := rfl
theorem ln89 : ln 89 = 24 := rfl
abbrev RS : Type := (Int → Int) × (Int → Int) × (Int → Int) × Int × Int × Int × Int
def RS.T (s : RS) : Int → Int := s.1
def RS.W (s : RS) : Int → Int := s.2.1
def RS.L (s : RS) : Int → Int := s.2.2.1
def RS.f (s : RS) : Int := s.2.2.2.1
def RS.l (s : RS) : Int := s.2.2.2.2.1
def RS.o (s : RS) : Int := s.2.2.2.2.2.1
def RS.n (s : RS) : Int := s.2.2.2.2.2.2
abbrev fr (s : RS) (x : Int) : Prop := 0 ≤ x ∧ x < 40 ∧ s.T x = 0
abbrev cb (s : RS) (d : Int) : Prop := fr s d ∨ (0 < d ∧ an (fun k => decide (fr s (10 * d + k))) 10 = true)
def clo (s : RS) : RS := ⟨fun x => if x = s.n then 1 else s.T x, fun j => if j = s.f then s.n else s.W j, fun j => if j = s.f then s.l else s.L j, s.f + 1, s.l, s.o + 1, -1⟩
def wNum (s : RS) (x : Int) : RS := ⟨s.T, s.W, s.L, s.f, s.l, s.o, x⟩
def wLin (s : RS) : RS := ⟨s.T, s.W, s.L, s.f, s.l + 1, 0, s.n⟩
def dg (s : RS) (d : Int) : Option RS :=
  if s.n = -1 then (if cb s d then some (wNum s d) else none) else if s.n ≠ 0 ∧ fr s (10 * s.n + d) then some (wNum s (10 * s.n + d)) else none
def stp (s : RS) (c : Int) : Option RS :=
  if 48 ≤ c ∧ c ≤ 57 then dg s (c - 48) else if c = 44 then (if s.o < 5 ∧ fr s s.n then some (clo s) else none) else if c = 47 ∧ s.l < 3 ∧ fr s s.n then some (wLin (clo s)) else none
def rs0 : RS := ⟨fun _ => 0, fun _ => 0, fun _ => 0, 0, 0, 0, -1⟩
def rdp (B : Int → Int) : Nat → Option RS
  | 0 => some rs0
  | i + 1 => (rdp B i).bind (fun s => stp s (B i))
theorem rdp_s {B : Int → Int} {i : Int} {s s' : RS} (h0 : 0 ≤ i) (h : rdp B i.toNat = some s) (h2 : stp s (B i) = some s') : rdp B (i + 1).toNat = some s' := by
  rw [show (i + 1).toNat = i.toNat + 1 by omega]
  show (rdp B i.toNat).bind _ = _
  rw [h]
  show stp s (B (i.toNat : Int)) = _
  rw [Int.toNat_of_nonneg h0]; exact h2
def RV (s : RS) : Prop :=
  0 ≤ s.f ∧ (0 ≤ s.l ∧ s.l ≤ 3) ∧ (0 ≤ s.o ∧ s.o ≤ 5) ∧ s.f ≤ 6 * s.l + s.o ∧ (-1 ≤ s.n ∧ s.n < 40) ∧ (∀ x, 0 ≤ x → x < 40 → s.T x = 0 ∨ s.T x = 1) ∧ (∀ j, 0 ≤ j → j < s.f → 0 ≤ s.W j ∧ s.W j < 40 ∧ 0 ≤ s.L j ∧ s.L j ≤ 3)
def RI (F : FF) (s : RS) : Prop :=
  F 86 3 = s.f ∧ F 86 4 = s.l ∧ F 86 5 = s.o ∧ F 86 6 = s.n ∧ (∀ x, 0 ≤ x → x < 40 → F 87 x = s.T x) ∧ (∀ j, 0 ≤ j → j < s.f → F 88 j = s.W j ∧ F 89 j = s.L j)
theorem RI.f {F : FF} {s : RS} (h : RI F s) : F 86 3 = s.f := h.1
theorem RI.l {F : FF} {s : RS} (h : RI F s) : F 86 4 = s.l := h.2.1
theorem RI.o {F : FF} {s : RS} (h : RI F s) : F 86 5 = s.o := h.2.2.1
theorem RI.n {F : FF} {s : RS} (h : RI F s) : F 86 6 = s.n := h.2.2.2.1
theorem RI.t {F : FF} {s : RS} (h : RI F s) {x : Int} (h0 : 0 ≤ x) (h1 : x < 40) : F 87 x = s.T x := h.2.2.2.2.1 x h0 h1
theorem RI.w {F : FF} {s : RS} (h : RI F s) {x : Int} (h0 : 0 ≤ x) (h1 : x < s.f) : F 88 x = s.W x ∧ F 89 x = s.L x := h.2.2.2.2.2 x h0 h1
def FrR (F F' : FF) : Prop := ∀ k, (k < 86 ∨ 89 < k) → F' k = F k
theorem FrR.refl {F : FF} : FrR F F := fun _ _ => rfl
theorem FrR.trans {F G H : FF} (h1 : FrR F G) (h2 : FrR G H) : FrR F H := fun k h => (h2 k h).trans (h1 k h)
theorem FrR.up {F G : FF} {k : Nat} {i z : Int} (h : FrR F G) (h1 : 86 ≤ k ∧ k ≤ 89) : FrR F (up G k i z) := fun k' q => by
  rw [up_k (by omega)]; exact h k' q
theorem FrR.b {F G : FF} (h : FrR F G) (k : Nat) (hk : k < 86 ∨ 89 < k) : G k = F k := h k hk
theorem RI.num {F : FF} {s : RS} {x y : Int} (h : RI F s) (e : y = x) : RI (up F 86 6 y) (wNum s x) := by
  subst e
  obtain ⟨h1, h2, h3, h4, h5, h6⟩ := h
  refine ⟨?_, ?_, ?_, up_eq, fun x a c => ?_, fun j a c => ?_⟩
  · rw [up_j (by omega)]; exact h1
  · rw [up_j (by omega)]; exact h2
  · rw [up_j (by omega)]; exact h3
  · rw [up_k (by omega)]; exact h5 x a c
  · rw [up_k (by omega), up_k (by omega)]; exact h6 j a c
theorem RI.nl {F : FF} {s : RS} (h : RI F s) : RI (up (up F 86 4 (s.l + 1)) 86 5 0) (wLin s) := by
  obtain ⟨h1, h2, h3, h4, h5, h6⟩ := h
  refine ⟨?_, ?_, up_eq, ?_, fun x a c => ?_, fun j a c => ?_⟩
  · rw [up_j (by omega), up_j (by omega)]; exact h1
  · rw [up_j (by omega), up_eq]; rfl
  · rw [up_j (by omega), up_j (by omega)]; exact h4
  · rw [up_k (by omega), up_k (by omega)]; exact h5 x a c
  · rw [up_k (by omega), up_k (by omega), up_k (by omega), up_k (by omega)]; exact h6 j a c
abbrev cloF (F : FF) (s : RS) : FF := up (up (up (up (up (up F 87 s.n 1) 88 s.f s.n) 89 s.f s.l) 86 3 (s.f + 1)) 86 5 (s.o + 1)) 86 6 (-1)
theorem clo_fr {F : FF} {s : RS} : FrR F (cloF F s) := (((((FrR.refl.up (by omega)).up (by omega)).up (by omega)).up (by omega)).up (by omega)).up (by omega)
theorem RI.clo {F : FF} {s : RS} (h : RI F s) (hV : RV s) (hf : fr s s.n) : RI (cloF F s) (clo s) := by
  obtain ⟨h1, h2, h3, h4, h5, h6⟩ := h
  refine ⟨?_, ?_, ?_, up_eq, fun x a c => ?_, fun j a c => ?_⟩
  · simp (disch := omega) only [up_k, up_j, up_eq]; rfl
  · simp (disch := omega) only [up_k, up_j, up_eq]; exact h2
  · simp (disch := omega) only [up_k, up_j, up_eq]; rfl
  · simp (disch := omega) only [up_k]
    show _ = if x = s.n then 1 else s.T x
    by_cases q : x = s.n
    · rw [if_pos q, q, up_eq]
    · rw [if_neg q, up_j q]; exact h5 x a c
  · simp (disch := omega) only [up_k]
    show _ = (if j = s.f then s.n else s.W j) ∧ _ = (if j = s.f then s.l else s.L j)
    by_cases q : j = s.f
    · rw [if_pos q, if_pos q, q, up_eq, up_eq]; exact ⟨rfl, rfl⟩
    · rw [if_neg q, if_neg q, up_j q, up_j q]
      have c2 : j < s.f + 1 := c
      exact h6 j a (by omega)
theorem RI.re {G : FF} (h : ∀ x, 0 ≤ x → x < 40 → G 87 x = 0) : RI (up (up (up (up G 86 3 0) 86 4 0) 86 5 0) 86 6 (-1)) rs0 := by
  refine ⟨?_, ?_, ?_, up_eq, fun x a c => ?_, fun j a c => ?_⟩
  · simp (disch := omega) only [up_k, up_j, up_eq]; rfl
  · simp (disch := omega) only [up_k, up_j, up_eq]; rfl
  · simp (disch := omega) only [up_k, up_j, up_eq]; rfl
  · simp (disch := omega) only [up_k]; exact h x a c
  · have c2 : j < 0 := c
    omega
theorem rs0_v : RV rs0 := ⟨Int.le_refl _, ⟨Int.le_refl _, by decide⟩, ⟨Int.le_refl _, by decide⟩, by decide, ⟨by decide, by decide⟩, fun _ _ _ => Or.inl rfl, fun j a c => by have c2 : j < 0 := c; omega⟩
theorem clo_w {s : RS} (h : RV s) (hf : fr s s.n) : 0 ≤ s.f + 1 ∧ s.f + 1 ≤ 24 ∧ (∀ x, 0 ≤ x → x < 40 → (clo s).T x = 0 ∨ (clo s).T x = 1) ∧ (∀ j, 0 ≤ j → j < s.f + 1 → 0 ≤ (clo s).W j ∧ (clo s).W j < 40 ∧ 0 ≤ (clo s).L j ∧ (clo s).L j ≤ 3) := by
  obtain ⟨h1, h2, h3, h4, h5, h6, h7⟩ := h
  refine ⟨by omega, by omega, fun x a c => ?_, fun j a c => ?_⟩
  · show (if x = s.n then (1 : Int) else s.T x) = 0 ∨ (if x = s.n then (1 : Int) else s.T x) = 1
    by_cases q : x = s.n
    · rw [if_pos q]; right; rfl
    · rw [if_neg q]; exact h6 x a c
  · show 0 ≤ (if j = s.f then s.n else s.W j) ∧ (if j = s.f then s.n else s.W j) < 40 ∧ 0 ≤ (if j = s.f then s.l else s.L j) ∧ (if j = s.f then s.l else s.L j) ≤ 3
    by_cases q : j = s.f
    · rw [if_pos q, if_pos q]; have := hf.1; have := hf.2.1; omega
    · rw [if_neg q, if_neg q]; exact h7 j a (by omega)
theorem stp_v {s s' : RS} {c : Int} (h : RV s) (hs : stp s c = some s') : RV s' := by
  have hv := h
  obtain ⟨h1, h2, h3, h4, h5, h6, h7⟩ := h
  unfold stp at hs
  by_cases a : 48 ≤ c ∧ c ≤ 57
  · rw [if_pos a] at hs
    unfold dg at hs
    by_cases b : s.n = -1
    · rw [if_pos b] at hs
      by_cases e : cb s (c - 48)
      · rw [if_pos e] at hs
        obtain rfl := Option.some.inj hs
        exact ⟨h1, h2, h3, h4, ⟨by show -1 ≤ c - 48; omega, by show c - 48 < 40; omega⟩, h6, h7⟩
      · rw [if_neg e] at hs; cases hs
    · rw [if_neg b] at hs
      by_cases e : s.n ≠ 0 ∧ fr s (10 * s.n + (c - 48))
      · rw [if_pos e] at hs
        obtain rfl := Option.some.inj hs
        have e1 := e.2.1
        have e2 := e.2.2.1
        exact ⟨h1, h2, h3, h4, ⟨by show -1 ≤ 10 * s.n + (c - 48); omega, e2⟩, h6, h7⟩
      · rw [if_neg e] at hs; cases hs
  · rw [if_neg a] at hs
    by_cases b : c = 44
    · rw [if_pos b] at hs
      by_cases e : s.o < 5 ∧ fr s s.n
      · rw [if_pos e] at hs
        obtain rfl := Option.some.inj hs
        obtain ⟨g1, g2, g3, g4⟩ := clo_w hv e.2
        have e1 := e.1
        exact ⟨g1, h2, ⟨by show 0 ≤ s.o + 1; omega, by show s.o + 1 ≤ 5; omega⟩, by show s.f + 1 ≤ 6 * s.l + (s.o + 1); omega, ⟨by show (-1 : Int) ≤ -1; decide, by show (-1 : Int) < 40; decide⟩, g3, g4⟩
      · rw [if_neg e] at hs; cases hs
    · rw [if_neg b] at hs
      by_cases e : c = 47 ∧ s.l < 3 ∧ fr s s.n
      · rw [if_pos e] at hs
        obtain rfl := Option.some.inj hs
        obtain ⟨g1, g2, g3, g4⟩ := clo_w hv e.2.2
        have e1 := e.2.1
        exact ⟨g1, ⟨by show 0 ≤ s.l + 1; omega, by show s.l + 1 ≤ 3; omega⟩, ⟨Int.le_refl _, by show (0 : Int) ≤ 5; decide⟩, by show s.f + 1 ≤ 6 * (s.l + 1) + 0; omega, ⟨by show (-1 : Int) ≤ -1; decide, by show (-1 : Int) < 40; decide⟩, g3, g4⟩
      · rw [if_neg e] at hs; cases hs
theorem cb_of {s : RS} {d k c : Int} (h : ¬ fr s d) (hk0 : 0 ≤ k) (hk1 : k ≤ 10) (hc : c = 1 ∧ an (fun k => decide (fr s (10 * d + k))) k = true ∨ c = 0 ∧ an (fun k => decide (fr s (10 * d + k))) k = false) (he : (k = 10 ∧ 0 < d) ∨ (d ≤ 0 ∧ k = 0)) : c = 1 ∧ cb s d ∨ c = 0 ∧ ¬ cb s d := by
  rcases he with ⟨e, q⟩ | ⟨e1, e2⟩
  · subst e
    rcases hc with ⟨a, b⟩ | ⟨a, b⟩
    · left; exact ⟨a, Or.inr ⟨q, b⟩⟩
    · right
      refine ⟨a, fun g => ?_⟩
      rcases g with g | g
      · exact h g
      · rw [b] at g; exact absurd g.2 (by decide)
  · subst e2
    rcases hc with ⟨a, b⟩ | ⟨a, b⟩
    · rw [an_0] at b; cases b
    · right
      refine ⟨a, fun g => ?_⟩
      rcases g with g | g
      · exact h g
      · have := g.1; omega

set_option maxRecDepth 100000 in
set_option maxHeartbeats 4000000 in
theorem k_X2_isFree (l : Launch) {w : WP} {F : FF} {s : RS} {x : Int} (hV : RV s) (hR : RI F s) (hx : inR x) : Con l yX2_isFree cX2_isFree 2 (some .boolean) 0 w [.ref (adr w 86), .int (iI x)] F (QI w (fun z F' => (z = 1 ∧ fr s x ∨ z = 0 ∧ ¬ fr s x) ∧ F = F')) := by
  refine Con.mk (lv := [(0, .ref (adr w 86)), (1, .int (iI x))]) (by decide) (Nat.le_of_ble_eq_true rfl) rfl ?_
  intro pg ev s0 mi be me co C hz
  have hv1 := hV.1
  have hv2 := hV.2.1
  have hv3 := hV.2.2.1
  have hv4 := hV.2.2.2.1
  have hv5 := hV.2.2.2.2.1
  refine q_iload_n C 1 dX2_isFree_0 rfl ?_
  refine q_if_lt C 26 dX2_isFree_1 ⟨by omega, by omega⟩  (by decide) (fun h1 => ?_) (fun h1 => ?_)
  · refine q_iconst C 0 dX2_isFree_26 ?_
    refine q_zret C dX2_isFree_27 (by decide) ?_
    exact ⟨by unfold fr; omega, rfl⟩
  · refine q_iload_n C 1 dX2_isFree_4 rfl ?_
    refine q_aload_n C 0 dX2_isFree_5 rfl ?_
    refine q_get (T := TX2) (i := 0) C kd86 (by decide) rfl uws2 (by decide) wd_180 rfl dX2_isFree_6 ?_
    refine q_alen (N := 40) C (by rw [kd87]; decide) ln87 dX2_isFree_9 ?_
    refine q_icmp_ge C 26 dX2_isFree_10 ⟨by omega, by omega⟩ ⟨by decide, by decide⟩ (by decide) (fun h10 => ?_) (fun h10 => ?_)
    · refine q_iconst C 0 dX2_isFree_26 ?_
      refine q_zret C dX2_isFree_27 (by decide) ?_
      exact ⟨by unfold fr; omega, rfl⟩
    · refine q_aload_n C 0 dX2_isFree_13 rfl ?_
      refine q_get (T := TX2) (i := 0) C kd86 (by decide) rfl uws2 (by decide) wd_180 rfl dX2_isFree_14 ?_
      refine q_iload_n C 1 dX2_isFree_17 rfl ?_
      refine q_zald C kd87 ⟨by omega, by rw [ln87]; omega⟩ dX2_isFree_18 ?_
      have hT := hV.2.2.2.2.2.1 x (by omega) (by omega)
      rw [hR.t (x := x) (by omega) (by omega)]
      refine q_if_ne C 26 dX2_isFree_19 ⟨by omega, by omega⟩  (by decide) (fun h19 => ?_) (fun h19 => ?_)
      · refine q_iconst C 0 dX2_isFree_26 ?_
        refine q_zret C dX2_isFree_27 (by decide) ?_
        exact ⟨by unfold fr; omega, rfl⟩
      · refine q_iconst C 1 dX2_isFree_22 ?_
        refine q_goto C 27 dX2_isFree_23 (by decide) ?_
        refine q_zret C dX2_isFree_27 (by decide) ?_
        exact ⟨by unfold fr; omega, rfl⟩

set_option maxRecDepth 100000 in
set_option maxHeartbeats 4000000 in
theorem k_X2_setTold (l : Launch) {w : WP} {F : FF} {x : Int} (hx : 0 ≤ x ∧ x < 40) : Con l yX2_setTold cX2_setTold 2 none 0 w [.ref (adr w 86), .int (iI x)] F (QV w (fun F' => F' = up F 87 x 1)) := by
  refine Con.mk (lv := [(0, .ref (adr w 86)), (1, .int (iI x))]) (by decide) (Nat.le_of_ble_eq_true rfl) rfl ?_
  intro pg ev s0 mi be me co C hz
  refine q_iload_n C 1 dX2_setTold_0 rfl ?_
  refine q_if_lt C 20 dX2_setTold_1 ⟨by omega, by omega⟩  (by decide) (fun h1 => ?_) (fun h1 => ?_)
  · refine q_vret C dX2_setTold_20 ?_
    first | rfl | (exfalso; omega)
  · refine q_iload_n C 1 dX2_setTold_4 rfl ?_
    refine q_aload_n C 0 dX2_setTold_5 rfl ?_
    refine q_get (T := TX2) (i := 0) C kd86 (by decide) rfl uws2 (by decide) wd_180 rfl dX2_setTold_6 ?_
    refine q_alen (N := 40) C (by rw [kd87]; decide) ln87 dX2_setTold_9 ?_
    refine q_icmp_ge C 20 dX2_setTold_10 ⟨by omega, by omega⟩ ⟨by decide, by decide⟩ (by decide) (fun h10 => ?_) (fun h10 => ?_)
    · refine q_vret C dX2_setTold_20 ?_
      first | rfl | (exfalso; omega)
    · refine q_aload_n C 0 dX2_setTold_13 rfl ?_
      refine q_get (T := TX2) (i := 0) C kd86 (by decide) rfl uws2 (by decide) wd_180 rfl dX2_setTold_14 ?_
      refine q_iload_n C 1 dX2_setTold_17 rfl ?_
      refine q_iconst C 1 dX2_setTold_18 ?_
      refine q_zast C kd87 ⟨by omega, by rw [ln87]; omega⟩ (by omega) dX2_setTold_19 ?_
      refine q_vret C dX2_setTold_20 ?_
      first | rfl | (exfalso; omega)

set_option maxRecDepth 100000 in
set_option maxHeartbeats 4000000 in
theorem k_X2_canBegin (l : Launch) {w : WP} {F : FF} {s : RS} {d : Int} (hV : RV s) (hR : RI F s) (hd : 0 ≤ d ∧ d < 10) : Con l yX2_canBegin cX2_canBegin 4 (some .boolean) 1 w [.ref (adr w 86), .int (iI d)] F (QI w (fun z F' => (z = 1 ∧ cb s d ∨ z = 0 ∧ ¬ cb s d) ∧ F = F')) := by
  refine Con.mk (lv := [(0, .ref (adr w 86)), (1, .int (iI d))]) (by decide) (Nat.le_of_ble_eq_true rfl) rfl ?_
  intro pg ev s0 mi be me co C hz
  have hv1 := hV.1
  have hv2 := hV.2.1
  have hv3 := hV.2.2.1
  have hv4 := hV.2.2.2.1
  have hv5 := hV.2.2.2.2.1
  refine q_aload_n C 0 dX2_canBegin_0 rfl ?_
  refine q_iload_n C 1 dX2_canBegin_1 rfl ?_
  refine q_cI (q_runV (As := [.int (iI d)]) (rest := []) C (k_X2_isFree l hV hR (x := d) ⟨by omega, by omega⟩) kd86 (by decide) rfl wd_260 wd_259 wd_3 wd_80 wd_257 nd_X2_isFree rfl (by decide) ⟨Nat.zero_le _, Nat.zero_le _⟩ rfl (Nat.le_of_ble_eq_true rfl) dX2_canBegin_2) ?_
  rintro z F' ⟨⟨rfl, hf2⟩ | ⟨rfl, hf2⟩, rfl⟩
  · refine q_if_eq C 10 dX2_canBegin_5 ⟨by decide, by decide⟩  (by decide) (fun h => absurd h (by decide)) (fun _ => ?_)
    refine q_iconst C 1 dX2_canBegin_8 ?_
    refine q_zret C dX2_canBegin_9 (by decide) ?_
    exact ⟨Or.inl ⟨rfl, Or.inl (by assumption)⟩, rfl⟩
  · refine q_if_eq C 10 dX2_canBegin_5 ⟨by decide, by decide⟩  (by decide) (fun _ => ?_) (fun h => absurd h (by decide))
    refine q_iconst C 0 dX2_canBegin_10 ?_
    refine q_istore_n (lv' := [(2, .int (iI 0)), (0, .ref (adr w 86)), (1, .int (iI d))]) C dX2_canBegin_11 (by decide) rfl ?_
    refine q_iconst C 0 dX2_canBegin_12 ?_
    refine q_istore_n (lv' := [(3, .int (iI 0)), (2, .int (iI 0)), (0, .ref (adr w 86)), (1, .int (iI d))]) C dX2_canBegin_13 (by decide) rfl ?_
    refine q_lv (lv' := [(0, .ref (adr w 86)), (1, .int (iI d)), (2, .int (iI 0)), (3, .int (iI 0))]) [2, 3, 1, 0] rfl ?_
    refine wf2 (P := fun (k : Int) (c : Int) => Wq pg l ev _ s0 mi _ be me co _ w _ _ _ 14 [(0, .ref (adr w 86)), (1, .int (iI d)), (2, .int (iI c)), (3, .int (iI k))] [] F) (I := fun (k : Int) (c : Int) => 0 ≤ k ∧ k ≤ 10 ∧ (d ≤ 0 → k = 0) ∧ (c = 1 ∧ an (fun k => decide (fr s (10 * d + k))) k = true ∨ c = 0 ∧ an (fun k => decide (fr s (10 * d + k))) k = false)) (μ := fun (k : Int) (c : Int) => (10 - k).toNat) ?_ 0 0 (⟨by omega, by omega, fun _ => rfl, Or.inr ⟨rfl, rfl⟩⟩)
    intro k c hI' ih14
    (try dsimp only at hI'); (try dsimp only at ih14); (try dsimp only)
    obtain ⟨hk0, hk1, hkd, hc⟩ := hI'
    refine q_iload_n C 3 dX2_canBegin_14 rfl ?_
    refine q_bipush C 10 dX2_canBegin_15 (by decide) ?_
    refine q_icmp_ge C 53 dX2_canBegin_17 ⟨by omega, by omega⟩ ⟨by decide, by decide⟩ (by decide) (fun h17 => ?_) (fun h17 => ?_)
    · refine q_iload_n C 2 dX2_canBegin_53 rfl ?_
      refine q_zret C dX2_canBegin_54 (by omega) ?_
      exact ⟨cb_of (by assumption) hk0 hk1 hc (by omega), rfl⟩
    · refine q_iload_n C 1 dX2_canBegin_20 rfl ?_
      refine q_if_le C 53 dX2_canBegin_21 ⟨by omega, by omega⟩  (by decide) (fun h21 => ?_) (fun h21 => ?_)
      · refine q_iload_n C 2 dX2_canBegin_53 rfl ?_
        refine q_zret C dX2_canBegin_54 (by omega) ?_
        exact ⟨cb_of (by assumption) hk0 hk1 hc (by omega), rfl⟩
      · refine q_iload_n C 2 dX2_canBegin_24 rfl ?_
        refine q_if_ne C 41 dX2_canBegin_25 ⟨by omega, by omega⟩  (by decide) (fun h25 => ?_) (fun h25 => ?_)
        · refine q_iconst C 1 dX2_canBegin_41 ?_
          refine q_goto C 46 dX2_canBegin_42 (by decide) ?_
          refine q_istore_n (lv' := [(2, .int (iI 1)), (0, .ref (adr w 86)), (1, .int (iI d)), (3, .int (iI k))]) C dX2_canBegin_46 (by decide) rfl ?_
          refine q_iinc (lv' := [(3, .int (iI (k + 1))), (2, .int (iI 1)), (0, .ref (adr w 86)), (1, .int (iI d))]) C 3 dX2_canBegin_47 rfl (by decide) rfl ?_
          refine q_goto C 14 dX2_canBegin_50 (by decide) ?_
          refine q_lv (lv' := [(0, .ref (adr w 86)), (1, .int (iI d)), (2, .int (iI 1)), (3, .int (iI (k + 1)))]) [2, 3, 1, 0] rfl ?_
          exact ih14 (k + 1) 1 (⟨by omega, by omega, fun q => by omega, by rw [an_s hk0]; first | (left; refine ⟨rfl, ?_⟩; rcases hc with ⟨_, h⟩ | ⟨h, _⟩; rw [h]; rfl; omega) | (left; refine ⟨rfl, ?_⟩; rw [decide_eq_true (by assumption), Bool.or_true]) | (right; refine ⟨rfl, ?_⟩; rcases hc with ⟨h, _⟩ | ⟨_, h⟩; omega; rw [h, decide_eq_false (by assumption)]; rfl)⟩) (by omega)
        · refine q_aload_n C 0 dX2_canBegin_28 rfl ?_
          refine q_bipush C 10 dX2_canBegin_29 (by decide) ?_
          refine q_iload_n C 1 dX2_canBegin_31 rfl ?_
          refine q_imul C dX2_canBegin_32 ?_
          refine q_iload_n C 3 dX2_canBegin_33 rfl ?_
          refine q_iadd C dX2_canBegin_34 ?_
          refine q_cI (q_runV (As := [.int (iI ((10 * d) + k))]) (rest := []) C (k_X2_isFree l hV hR (x := (10 * d) + k) ⟨by omega, by omega⟩) kd86 (by decide) rfl wd_260 wd_259 wd_3 wd_80 wd_257 nd_X2_isFree rfl (by decide) ⟨Nat.zero_le _, Nat.zero_le _⟩ rfl (Nat.le_of_ble_eq_true rfl) dX2_canBegin_35) ?_
          rintro z F' ⟨⟨rfl, hf35⟩ | ⟨rfl, hf35⟩, rfl⟩
          · refine q_if_eq C 45 dX2_canBegin_38 ⟨by decide, by decide⟩  (by decide) (fun h => absurd h (by decide)) (fun _ => ?_)
            refine q_iconst C 1 dX2_canBegin_41 ?_
            refine q_goto C 46 dX2_canBegin_42 (by decide) ?_
            refine q_istore_n (lv' := [(2, .int (iI 1)), (0, .ref (adr w 86)), (1, .int (iI d)), (3, .int (iI k))]) C dX2_canBegin_46 (by decide) rfl ?_
            refine q_iinc (lv' := [(3, .int (iI (k + 1))), (2, .int (iI 1)), (0, .ref (adr w 86)), (1, .int (iI d))]) C 3 dX2_canBegin_47 rfl (by decide) rfl ?_
            refine q_goto C 14 dX2_canBegin_50 (by decide) ?_
            refine q_lv (lv' := [(0, .ref (adr w 86)), (1, .int (iI d)), (2, .int (iI 1)), (3, .int (iI (k + 1)))]) [2, 3, 1, 0] rfl ?_
            exact ih14 (k + 1) 1 (⟨by omega, by omega, fun q => by omega, by rw [an_s hk0]; first | (left; refine ⟨rfl, ?_⟩; rcases hc with ⟨_, h⟩ | ⟨h, _⟩; rw [h]; rfl; omega) | (left; refine ⟨rfl, ?_⟩; rw [decide_eq_true (by assumption), Bool.or_true]) | (right; refine ⟨rfl, ?_⟩; rcases hc with ⟨h, _⟩ | ⟨_, h⟩; omega; rw [h, decide_eq_false (by assumption)]; rfl)⟩) (by omega)
          · refine q_if_eq C 45 dX2_canBegin_38 ⟨by decide, by decide⟩  (by decide) (fun _ => ?_) (fun h => absurd h (by decide))
            refine q_iconst C 0 dX2_canBegin_45 ?_
            refine q_istore_n (lv' := [(2, .int (iI 0)), (0, .ref (adr w 86)), (1, .int (iI d)), (3, .int (iI k))]) C dX2_canBegin_46 (by decide) rfl ?_
            refine q_iinc (lv' := [(3, .int (iI (k + 1))), (2, .int (iI 0)), (0, .ref (adr w 86)), (1, .int (iI d))]) C 3 dX2_canBegin_47 rfl (by decide) rfl ?_
            refine q_goto C 14 dX2_canBegin_50 (by decide) ?_
            refine q_lv (lv' := [(0, .ref (adr w 86)), (1, .int (iI d)), (2, .int (iI 0)), (3, .int (iI (k + 1)))]) [2, 3, 1, 0] rfl ?_
            exact ih14 (k + 1) 0 (⟨by omega, by omega, fun q => by omega, by rw [an_s hk0]; first | (left; refine ⟨rfl, ?_⟩; rcases hc with ⟨_, h⟩ | ⟨h, _⟩; rw [h]; rfl; omega) | (left; refine ⟨rfl, ?_⟩; rw [decide_eq_true (by assumption), Bool.or_true]) | (right; refine ⟨rfl, ?_⟩; rcases hc with ⟨h, _⟩ | ⟨_, h⟩; omega; rw [h, decide_eq_false (by assumption)]; rfl)⟩) (by omega)

set_option maxRecDepth 100000 in
set_option maxHeartbeats 4000000 in
theorem k_X2_takesDigit (l : Launch) {w : WP} {F : FF} {s : RS} {d : Int} (hV : RV s) (hR : RI F s) (hd : 0 ≤ d ∧ d < 10) : Con l yX2_takesDigit cX2_takesDigit 4 (some .boolean) 2 w [.ref (adr w 86), .int (iI d)] F (QI w (fun z F' => (z = 1 ∧ (∃ s', dg s d = some s' ∧ RI F' s') ∨ z = 0 ∧ dg s d = none ∧ F = F') ∧ FrR F F')) := by
  refine Con.mk (lv := [(0, .ref (adr w 86)), (1, .int (iI d))]) (by decide) (Nat.le_of_ble_eq_true rfl) rfl ?_
  intro pg ev s0 mi be me co C hz
  have hv1 := hV.1
  have hv2 := hV.2.1
  have hv3 := hV.2.2.1
  have hv4 := hV.2.2.2.1
  have hv5 := hV.2.2.2.2.1
  refine q_aload_n C 0 dX2_takesDigit_0 rfl ?_
  refine q_get (T := TX2) (i := 6) C kd86 (by decide) rfl uws2 (by decide) wd_187 rfl dX2_takesDigit_1 ?_
  rw [hR.n]
  refine q_iconst C (-1) dX2_takesDigit_4 ?_
  refine q_icmp_ne C 12 dX2_takesDigit_5 ⟨by omega, by omega⟩ ⟨by decide, by decide⟩ (by decide) (fun h5 => ?_) (fun h5 => ?_)
  · refine q_bipush C 10 dX2_takesDigit_12 (by decide) ?_
    refine q_aload_n C 0 dX2_takesDigit_14 rfl ?_
    refine q_get (T := TX2) (i := 6) C kd86 (by decide) rfl uws2 (by decide) wd_187 rfl dX2_takesDigit_15 ?_
    rw [hR.n]
    refine q_imul C dX2_takesDigit_18 ?_
    refine q_iload_n C 1 dX2_takesDigit_19 rfl ?_
    refine q_iadd C dX2_takesDigit_20 ?_
    refine q_istore_n (lv' := [(2, .int (iI ((10 * s.n) + d))), (0, .ref (adr w 86)), (1, .int (iI d))]) C dX2_takesDigit_21 (by decide) rfl ?_
    refine q_aload_n C 1 dX2_takesDigit_22 rfl ?_
    refine q_get (T := TX2) (i := 6) C kd86 (by decide) rfl uws2 (by decide) wd_187 rfl dX2_takesDigit_23 ?_
    rw [hR.n]
    refine q_iconst C (-1) dX2_takesDigit_26 ?_
    refine q_icmp_ne C 38 dX2_takesDigit_27 ⟨by omega, by omega⟩ ⟨by decide, by decide⟩ (by decide) (fun h27 => ?_) (fun h27 => ?_)
    · refine q_aload_n C 1 dX2_takesDigit_38 rfl ?_
      refine q_get (T := TX2) (i := 6) C kd86 (by decide) rfl uws2 (by decide) wd_187 rfl dX2_takesDigit_39 ?_
      rw [hR.n]
      refine q_if_eq C 57 dX2_takesDigit_42 ⟨by omega, by omega⟩  (by decide) (fun h42 => ?_) (fun h42 => ?_)
      · refine q_iconst C 0 dX2_takesDigit_57 ?_
        refine q_istore_n (lv' := [(3, .int (iI 0)), (2, .int (iI ((10 * s.n) + d))), (0, .ref (adr w 86)), (1, .int (iI d))]) C dX2_takesDigit_58 (by decide) rfl ?_
        refine q_iload_n C 0 dX2_takesDigit_59 rfl ?_
        refine q_if_eq C 68 dX2_takesDigit_60 ⟨by decide, by decide⟩  (by decide) (fun _ => ?_) (fun h => absurd h (by decide))
        refine q_iload_n C 0 dX2_takesDigit_68 rfl ?_
        refine q_zret C dX2_takesDigit_69 (by decide) ?_
        first | (exfalso; omega) | exact ⟨Or.inr ⟨rfl, (by unfold dg; first | rw [if_pos (by assumption), if_neg (by assumption)] | rw [if_neg (by assumption), if_neg (fun q => absurd q.2 (by assumption))] | rw [if_neg (by assumption), if_neg (fun q => absurd (by assumption) q.1)]), rfl⟩, FrR.refl⟩
      · refine q_aload_n C 1 dX2_takesDigit_45 rfl ?_
        refine q_iload_n C 0 dX2_takesDigit_46 rfl ?_
        refine q_cI (q_runV (As := [.int (iI ((10 * s.n) + d))]) (rest := []) C (k_X2_isFree l hV hR (x := (10 * s.n) + d) ⟨by omega, by omega⟩) kd86 (by decide) rfl wd_260 wd_259 wd_3 wd_80 wd_257 nd_X2_isFree rfl (by decide) ⟨Nat.zero_le _, Nat.zero_le _⟩ rfl (Nat.le_of_ble_eq_true rfl) dX2_takesDigit_47) ?_
        rintro z F' ⟨⟨rfl, hf47⟩ | ⟨rfl, hf47⟩, rfl⟩
        · refine q_if_eq C 57 dX2_takesDigit_50 ⟨by decide, by decide⟩  (by decide) (fun h => absurd h (by decide)) (fun _ => ?_)
          refine q_iconst C 1 dX2_takesDigit_53 ?_
          refine q_goto C 58 dX2_takesDigit_54 (by decide) ?_
          refine q_istore_n (lv' := [(3, .int (iI 1)), (2, .int (iI ((10 * s.n) + d))), (0, .ref (adr w 86)), (1, .int (iI d))]) C dX2_takesDigit_58 (by decide) rfl ?_
          refine q_iload_n C 0 dX2_takesDigit_59 rfl ?_
          refine q_if_eq C 68 dX2_takesDigit_60 ⟨by decide, by decide⟩  (by decide) (fun h => absurd h (by decide)) (fun _ => ?_)
          refine q_aload_n C 2 dX2_takesDigit_63 rfl ?_
          refine q_iload_n C 1 dX2_takesDigit_64 rfl ?_
          refine q_put (T := TX2) (tyX := tyX2) (i := 6) (j := 6) (z := ((10 * s.n) + d)) (ty := .int) C rfl kd86 (by decide) rfl uws2 tyX2_ok nmX2 (by decide) (kd_ln.2.2.1 kd86) wd_187 rfl rfl rfl rfl (fsS_2_6 w _ _ _) (Nat.le_of_ble_eq_true rfl) dX2_takesDigit_65 ?_
          refine q_iload_n C 0 dX2_takesDigit_68 rfl ?_
          refine q_zret C dX2_takesDigit_69 (by decide) ?_
          first | (exfalso; omega) | exact ⟨Or.inl ⟨rfl, _, (by unfold dg; first | rw [if_pos (by assumption), if_pos (by assumption)] | rw [if_neg (by assumption), if_pos ⟨by assumption, by assumption⟩]), hR.num (by first | rfl | omega)⟩, FrR.up FrR.refl (by omega)⟩
        · refine q_if_eq C 57 dX2_takesDigit_50 ⟨by decide, by decide⟩  (by decide) (fun _ => ?_) (fun h => absurd h (by decide))
          refine q_iconst C 0 dX2_takesDigit_57 ?_
          refine q_istore_n (lv' := [(3, .int (iI 0)), (2, .int (iI ((10 * s.n) + d))), (0, .ref (adr w 86)), (1, .int (iI d))]) C dX2_takesDigit_58 (by decide) rfl ?_
          refine q_iload_n C 0 dX2_takesDigit_59 rfl ?_
          refine q_if_eq C 68 dX2_takesDigit_60 ⟨by decide, by decide⟩  (by decide) (fun _ => ?_) (fun h => absurd h (by decide))
          refine q_iload_n C 0 dX2_takesDigit_68 rfl ?_
          refine q_zret C dX2_takesDigit_69 (by decide) ?_
          first | (exfalso; omega) | exact ⟨Or.inr ⟨rfl, (by unfold dg; first | rw [if_pos (by assumption), if_neg (by assumption)] | rw [if_neg (by assumption), if_neg (fun q => absurd q.2 (by assumption))] | rw [if_neg (by assumption), if_neg (fun q => absurd (by assumption) q.1)]), rfl⟩, FrR.refl⟩
    · refine q_aload_n C 1 dX2_takesDigit_30 rfl ?_
      refine q_iload_n C 2 dX2_takesDigit_31 rfl ?_
      refine q_cI (q_runV (As := [.int (iI d)]) (rest := []) C (k_X2_canBegin l hV hR (d := d) ⟨by omega, by omega⟩) kd86 (by decide) rfl wd_256 wd_255 wd_2 wd_80 wd_253 nd_X2_canBegin rfl (by decide) ⟨Nat.zero_le _, Nat.zero_le _⟩ rfl (Nat.le_of_ble_eq_true rfl) dX2_takesDigit_32) ?_
      rintro z F' ⟨⟨rfl, hf32⟩ | ⟨rfl, hf32⟩, rfl⟩
      · refine q_goto C 58 dX2_takesDigit_35 (by decide) ?_
        refine q_istore_n (lv' := [(3, .int (iI 1)), (2, .int (iI ((10 * s.n) + d))), (0, .ref (adr w 86)), (1, .int (iI d))]) C dX2_takesDigit_58 (by decide) rfl ?_
        refine q_iload_n C 0 dX2_takesDigit_59 rfl ?_
        refine q_if_eq C 68 dX2_takesDigit_60 ⟨by decide, by decide⟩  (by decide) (fun h => absurd h (by decide)) (fun _ => ?_)
        refine q_aload_n C 2 dX2_takesDigit_63 rfl ?_
        refine q_iload_n C 1 dX2_takesDigit_64 rfl ?_
        refine q_put (T := TX2) (tyX := tyX2) (i := 6) (j := 6) (z := ((10 * s.n) + d)) (ty := .int) C rfl kd86 (by decide) rfl uws2 tyX2_ok nmX2 (by decide) (kd_ln.2.2.1 kd86) wd_187 rfl rfl rfl rfl (fsS_2_6 w _ _ _) (Nat.le_of_ble_eq_true rfl) dX2_takesDigit_65 ?_
        refine q_iload_n C 0 dX2_takesDigit_68 rfl ?_
        refine q_zret C dX2_takesDigit_69 (by decide) ?_
        first | (exfalso; omega) | exact ⟨Or.inl ⟨rfl, _, (by unfold dg; first | rw [if_pos (by assumption), if_pos (by assumption)] | rw [if_neg (by assumption), if_pos ⟨by assumption, by assumption⟩]), hR.num (by first | rfl | omega)⟩, FrR.up FrR.refl (by omega)⟩
      · refine q_goto C 58 dX2_takesDigit_35 (by decide) ?_
        refine q_istore_n (lv' := [(3, .int (iI 0)), (2, .int (iI ((10 * s.n) + d))), (0, .ref (adr w 86)), (1, .int (iI d))]) C dX2_takesDigit_58 (by decide) rfl ?_
        refine q_iload_n C 0 dX2_takesDigit_59 rfl ?_
        refine q_if_eq C 68 dX2_takesDigit_60 ⟨by decide, by decide⟩  (by decide) (fun _ => ?_) (fun h => absurd h (by decide))
        refine q_iload_n C 0 dX2_takesDigit_68 rfl ?_
        refine q_zret C dX2_takesDigit_69 (by decide) ?_
        first | (exfalso; omega) | exact ⟨Or.inr ⟨rfl, (by unfold dg; first | rw [if_pos (by assumption), if_neg (by assumption)] | rw [if_neg (by assumption), if_neg (fun q => absurd q.2 (by assumption))] | rw [if_neg (by assumption), if_neg (fun q => absurd (by assumption) q.1)]), rfl⟩, FrR.refl⟩
  · refine q_iload_n C 1 dX2_takesDigit_8 rfl ?_
    refine q_goto C 21 dX2_takesDigit_9 (by decide) ?_
    refine q_istore_n (lv' := [(2, .int (iI d)), (0, .ref (adr w 86)), (1, .int (iI d))]) C dX2_takesDigit_21 (by decide) rfl ?_
    refine q_aload_n C 1 dX2_takesDigit_22 rfl ?_
    refine q_get (T := TX2) (i := 6) C kd86 (by decide) rfl uws2 (by decide) wd_187 rfl dX2_takesDigit_23 ?_
    rw [hR.n]
    refine q_iconst C (-1) dX2_takesDigit_26 ?_
    refine q_icmp_ne C 38 dX2_takesDigit_27 ⟨by omega, by omega⟩ ⟨by decide, by decide⟩ (by decide) (fun h27 => ?_) (fun h27 => ?_)
    · refine q_aload_n C 1 dX2_takesDigit_38 rfl ?_
      refine q_get (T := TX2) (i := 6) C kd86 (by decide) rfl uws2 (by decide) wd_187 rfl dX2_takesDigit_39 ?_
      rw [hR.n]
      refine q_if_eq C 57 dX2_takesDigit_42 ⟨by omega, by omega⟩  (by decide) (fun h42 => ?_) (fun h42 => ?_)
      · refine q_iconst C 0 dX2_takesDigit_57 ?_
        refine q_istore_n (lv' := [(3, .int (iI 0)), (2, .int (iI d)), (0, .ref (adr w 86)), (1, .int (iI d))]) C dX2_takesDigit_58 (by decide) rfl ?_
        refine q_iload_n C 0 dX2_takesDigit_59 rfl ?_
        refine q_if_eq C 68 dX2_takesDigit_60 ⟨by decide, by decide⟩  (by decide) (fun _ => ?_) (fun h => absurd h (by decide))
        refine q_iload_n C 0 dX2_takesDigit_68 rfl ?_
        refine q_zret C dX2_takesDigit_69 (by decide) ?_
        first | (exfalso; omega) | exact ⟨Or.inr ⟨rfl, (by unfold dg; first | rw [if_pos (by assumption), if_neg (by assumption)] | rw [if_neg (by assumption), if_neg (fun q => absurd q.2 (by assumption))] | rw [if_neg (by assumption), if_neg (fun q => absurd (by assumption) q.1)]), rfl⟩, FrR.refl⟩
      · refine q_aload_n C 1 dX2_takesDigit_45 rfl ?_
        refine q_iload_n C 0 dX2_takesDigit_46 rfl ?_
        refine q_cI (q_runV (As := [.int (iI d)]) (rest := []) C (k_X2_isFree l hV hR (x := d) ⟨by omega, by omega⟩) kd86 (by decide) rfl wd_260 wd_259 wd_3 wd_80 wd_257 nd_X2_isFree rfl (by decide) ⟨Nat.zero_le _, Nat.zero_le _⟩ rfl (Nat.le_of_ble_eq_true rfl) dX2_takesDigit_47) ?_
        rintro z F' ⟨⟨rfl, hf47⟩ | ⟨rfl, hf47⟩, rfl⟩
        · refine q_if_eq C 57 dX2_takesDigit_50 ⟨by decide, by decide⟩  (by decide) (fun h => absurd h (by decide)) (fun _ => ?_)
          refine q_iconst C 1 dX2_takesDigit_53 ?_
          refine q_goto C 58 dX2_takesDigit_54 (by decide) ?_
          refine q_istore_n (lv' := [(3, .int (iI 1)), (2, .int (iI d)), (0, .ref (adr w 86)), (1, .int (iI d))]) C dX2_takesDigit_58 (by decide) rfl ?_
          refine q_iload_n C 0 dX2_takesDigit_59 rfl ?_
          refine q_if_eq C 68 dX2_takesDigit_60 ⟨by decide, by decide⟩  (by decide) (fun h => absurd h (by decide)) (fun _ => ?_)
          refine q_aload_n C 2 dX2_takesDigit_63 rfl ?_
          refine q_iload_n C 1 dX2_takesDigit_64 rfl ?_
          refine q_put (T := TX2) (tyX := tyX2) (i := 6) (j := 6) (z := d) (ty := .int) C rfl kd86 (by decide) rfl uws2 tyX2_ok nmX2 (by decide) (kd_ln.2.2.1 kd86) wd_187 rfl rfl rfl rfl (fsS_2_6 w _ _ _) (Nat.le_of_ble_eq_true rfl) dX2_takesDigit_65 ?_
          refine q_iload_n C 0 dX2_takesDigit_68 rfl ?_
          refine q_zret C dX2_takesDigit_69 (by decide) ?_
          first | (exfalso; omega) | exact ⟨Or.inl ⟨rfl, _, (by unfold dg; first | rw [if_pos (by assumption), if_pos (by assumption)] | rw [if_neg (by assumption), if_pos ⟨by assumption, by assumption⟩]), hR.num (by first | rfl | omega)⟩, FrR.up FrR.refl (by omega)⟩
        · refine q_if_eq C 57 dX2_takesDigit_50 ⟨by decide, by decide⟩  (by decide) (fun _ => ?_) (fun h => absurd h (by decide))
          refine q_iconst C 0 dX2_takesDigit_57 ?_
          refine q_istore_n (lv' := [(3, .int (iI 0)), (2, .int (iI d)), (0, .ref (adr w 86)), (1, .int (iI d))]) C dX2_takesDigit_58 (by decide) rfl ?_
          refine q_iload_n C 0 dX2_takesDigit_59 rfl ?_
          refine q_if_eq C 68 dX2_takesDigit_60 ⟨by decide, by decide⟩  (by decide) (fun _ => ?_) (fun h => absurd h (by decide))
          refine q_iload_n C 0 dX2_takesDigit_68 rfl ?_
          refine q_zret C dX2_takesDigit_69 (by decide) ?_
          first | (exfalso; omega) | exact ⟨Or.inr ⟨rfl, (by unfold dg; first | rw [if_pos (by assumption), if_neg (by assumption)] | rw [if_neg (by assumption), if_neg (fun q => absurd q.2 (by assumption))] | rw [if_neg (by assumption), if_neg (fun q => absurd (by assumption) q.1)]), rfl⟩, FrR.refl⟩
    · refine q_aload_n C 1 dX2_takesDigit_30 rfl ?_
      refine q_iload_n C 2 dX2_takesDigit_31 rfl ?_
      refine q_cI (q_runV (As := [.int (iI d)]) (rest := []) C (k_X2_canBegin l hV hR (d := d) ⟨by omega, by omega⟩) kd86 (by decide) rfl wd_256 wd_255 wd_2 wd_80 wd_253 nd_X2_canBegin rfl (by decide) ⟨Nat.zero_le _, Nat.zero_le _⟩ rfl (Nat.le_of_ble_eq_true rfl) dX2_takesDigit_32) ?_
      rintro z F' ⟨⟨rfl, hf32⟩ | ⟨rfl, hf32⟩, rfl⟩
      · refine q_goto C 58 dX2_takesDigit_35 (by decide) ?_
        refine q_istore_n (lv' := [(3, .int (iI 1)), (2, .int (iI d)), (0, .ref (adr w 86)), (1, .int (iI d))]) C dX2_takesDigit_58 (by decide) rfl ?_
        refine q_iload_n C 0 dX2_takesDigit_59 rfl ?_
        refine q_if_eq C 68 dX2_takesDigit_60 ⟨by decide, by decide⟩  (by decide) (fun h => absurd h (by decide)) (fun _ => ?_)
        refine q_aload_n C 2 dX2_takesDigit_63 rfl ?_
        refine q_iload_n C 1 dX2_takesDigit_64 rfl ?_
        refine q_put (T := TX2) (tyX := tyX2) (i := 6) (j := 6) (z := d) (ty := .int) C rfl kd86 (by decide) rfl uws2 tyX2_ok nmX2 (by decide) (kd_ln.2.2.1 kd86) wd_187 rfl rfl rfl rfl (fsS_2_6 w _ _ _) (Nat.le_of_ble_eq_true rfl) dX2_takesDigit_65 ?_
        refine q_iload_n C 0 dX2_takesDigit_68 rfl ?_
        refine q_zret C dX2_takesDigit_69 (by decide) ?_
        first | (exfalso; omega) | exact ⟨Or.inl ⟨rfl, _, (by unfold dg; first | rw [if_pos (by assumption), if_pos (by assumption)] | rw [if_neg (by assumption), if_pos ⟨by assumption, by assumption⟩]), hR.num (by first | rfl | omega)⟩, FrR.up FrR.refl (by omega)⟩
      · refine q_goto C 58 dX2_takesDigit_35 (by decide) ?_
        refine q_istore_n (lv' := [(3, .int (iI 0)), (2, .int (iI d)), (0, .ref (adr w 86)), (1, .int (iI d))]) C dX2_takesDigit_58 (by decide) rfl ?_
        refine q_iload_n C 0 dX2_takesDigit_59 rfl ?_
        refine q_if_eq C 68 dX2_takesDigit_60 ⟨by decide, by decide⟩  (by decide) (fun _ => ?_) (fun h => absurd h (by decide))
        refine q_iload_n C 0 dX2_takesDigit_68 rfl ?_
        refine q_zret C dX2_takesDigit_69 (by decide) ?_
        first | (exfalso; omega) | exact ⟨Or.inr ⟨rfl, (by unfold dg; first | rw [if_pos (by assumption), if_neg (by assumption)] | rw [if_neg (by assumption), if_neg (fun q => absurd q.2 (by assumption))] | rw [if_neg (by assumption), if_neg (fun q => absurd (by assumption) q.1)]), rfl⟩, FrR.refl⟩

set_option maxRecDepth 100000 in
set_option maxHeartbeats 4000000 in
theorem k_X2_closesNumber (l : Launch) {w : WP} {F : FF} {s : RS} (hV : RV s) (hR : RI F s)  : Con l yX2_closesNumber cX2_closesNumber 1 (some .boolean) 1 w [.ref (adr w 86)] F (QI w (fun z F' => (z = 1 ∧ fr s s.n ∧ RI F' (clo s) ∨ z = 0 ∧ ¬ fr s s.n ∧ F = F') ∧ FrR F F')) := by
  refine Con.mk (lv := [(0, .ref (adr w 86))]) (by decide) (Nat.le_of_ble_eq_true rfl) rfl ?_
  intro pg ev s0 mi be me co C hz
  have hv1 := hV.1
  have hv2 := hV.2.1
  have hv3 := hV.2.2.1
  have hv4 := hV.2.2.2.1
  have hv5 := hV.2.2.2.2.1
  refine q_aload_n C 0 dX2_closesNumber_0 rfl ?_
  refine q_aload_n C 0 dX2_closesNumber_1 rfl ?_
  refine q_get (T := TX2) (i := 6) C kd86 (by decide) rfl uws2 (by decide) wd_187 rfl dX2_closesNumber_2 ?_
  rw [hR.n]
  refine q_cI (q_runV (As := [.int (iI s.n)]) (rest := []) C (k_X2_isFree l hV hR (x := s.n) ⟨by omega, by omega⟩) kd86 (by decide) rfl wd_260 wd_259 wd_3 wd_80 wd_257 nd_X2_isFree rfl (by decide) ⟨Nat.zero_le _, Nat.zero_le _⟩ rfl (Nat.le_of_ble_eq_true rfl) dX2_closesNumber_5) ?_
  rintro z F' ⟨⟨rfl, hf5⟩ | ⟨rfl, hf5⟩, rfl⟩
  · refine q_if_eq C 27 dX2_closesNumber_8 ⟨by decide, by decide⟩  (by decide) (fun h => absurd h (by decide)) (fun _ => ?_)
    refine q_aload_n C 0 dX2_closesNumber_11 rfl ?_
    refine q_get (T := TX2) (i := 3) C kd86 (by decide) rfl uws2 (by decide) wd_183 rfl dX2_closesNumber_12 ?_
    rw [hR.f]
    refine q_if_lt C 27 dX2_closesNumber_15 ⟨by omega, by omega⟩  (by decide) (fun h15 => ?_) (fun h15 => ?_)
    · refine q_iconst C 0 dX2_closesNumber_27 ?_
      refine q_zret C dX2_closesNumber_28 (by decide) ?_
      first | exact ⟨Or.inr ⟨rfl, by assumption, rfl⟩, FrR.refl⟩ | (exfalso; omega)
    · refine q_aload_n C 0 dX2_closesNumber_18 rfl ?_
      refine q_get (T := TX2) (i := 3) C kd86 (by decide) rfl uws2 (by decide) wd_183 rfl dX2_closesNumber_19 ?_
      rw [hR.f]
      refine q_bipush C 24 dX2_closesNumber_22 (by decide) ?_
      refine q_icmp_lt C 29 dX2_closesNumber_24 ⟨by omega, by omega⟩ ⟨by decide, by decide⟩ (by decide) (fun h24 => ?_) (fun h24 => ?_)
      · have hfr := hf5.1; have hfr2 := hf5.2.1
        refine q_aload_n C 0 dX2_closesNumber_29 rfl ?_
        refine q_aload_n C 0 dX2_closesNumber_30 rfl ?_
        refine q_get (T := TX2) (i := 6) C kd86 (by decide) rfl uws2 (by decide) wd_187 rfl dX2_closesNumber_31 ?_
        rw [hR.n]
        refine q_cV (q_runV (As := [.int (iI s.n)]) (rest := []) C (k_X2_setTold (F := F) l (x := s.n) ⟨by omega, by omega⟩) kd86 (by decide) rfl wd_268 wd_267 wd_4 wd_80 wd_265 nd_X2_setTold rfl (by decide) ⟨Nat.zero_le _, Nat.zero_le _⟩ rfl (Nat.le_of_ble_eq_true rfl) dX2_closesNumber_34) ?_
        rintro F' rfl
        refine q_aload_n C 0 dX2_closesNumber_37 rfl ?_
        refine q_get (T := TX2) (i := 1) C kd86 (by decide) rfl uws2 (by decide) wd_181 rfl dX2_closesNumber_38 ?_
        refine q_aload_n C 0 dX2_closesNumber_41 rfl ?_
        refine q_get (T := TX2) (i := 3) C kd86 (by decide) rfl uws2 (by decide) wd_183 rfl dX2_closesNumber_42 ?_
        refine q_top (z' := F 86 3) (by simp (disch := omega) only [up_k, up_j, up_eq]) ?_
        rw [hR.f]
        refine q_aload_n C 0 dX2_closesNumber_45 rfl ?_
        refine q_get (T := TX2) (i := 6) C kd86 (by decide) rfl uws2 (by decide) wd_187 rfl dX2_closesNumber_46 ?_
        refine q_top (z' := F 86 6) (by simp (disch := omega) only [up_k, up_j, up_eq]) ?_
        rw [hR.n]
        refine q_cV (q_runSN (As := [.ref (adr w 88), .int (iI s.f), .int (iI s.n)]) (rest := []) C ((k_X3_setCell (F := (up F 87 s.n 1)) (x := s.f) (v := s.n) l kd88 ⟨by omega, by omega⟩).postV (fun _ h => h.1 ⟨by omega, by rw [ln88]; omega⟩)) wd_108 wd_107 wd_77 nw_269 nd_X3_setCell rfl (by decide) ⟨Nat.zero_le _, Nat.zero_le _⟩ rfl (Nat.le_of_ble_eq_true rfl) dX2_closesNumber_49) ?_
        rintro F' rfl
        refine q_aload_n C 0 dX2_closesNumber_52 rfl ?_
        refine q_get (T := TX2) (i := 2) C kd86 (by decide) rfl uws2 (by decide) wd_182 rfl dX2_closesNumber_53 ?_
        refine q_aload_n C 0 dX2_closesNumber_56 rfl ?_
        refine q_get (T := TX2) (i := 3) C kd86 (by decide) rfl uws2 (by decide) wd_183 rfl dX2_closesNumber_57 ?_
        refine q_top (z' := F 86 3) (by simp (disch := omega) only [up_k, up_j, up_eq]) ?_
        rw [hR.f]
        refine q_aload_n C 0 dX2_closesNumber_60 rfl ?_
        refine q_get (T := TX2) (i := 4) C kd86 (by decide) rfl uws2 (by decide) wd_185 rfl dX2_closesNumber_61 ?_
        refine q_top (z' := F 86 4) (by simp (disch := omega) only [up_k, up_j, up_eq]) ?_
        rw [hR.l]
        refine q_cV (q_runSN (As := [.ref (adr w 89), .int (iI s.f), .int (iI s.l)]) (rest := []) C ((k_X3_setCell (F := (up (up F 87 s.n 1) 88 s.f s.n)) (x := s.f) (v := s.l) l kd89 ⟨by omega, by omega⟩).postV (fun _ h => h.1 ⟨by omega, by rw [ln89]; omega⟩)) wd_108 wd_107 wd_77 nw_269 nd_X3_setCell rfl (by decide) ⟨Nat.zero_le _, Nat.zero_le _⟩ rfl (Nat.le_of_ble_eq_true rfl) dX2_closesNumber_64) ?_
        rintro F' rfl
        refine q_aload_n C 0 dX2_closesNumber_67 rfl ?_
        refine q_dup C dX2_closesNumber_68 rfl ?_
        refine q_get (T := TX2) (i := 3) C kd86 (by decide) rfl uws2 (by decide) wd_183 rfl dX2_closesNumber_69 ?_
        refine q_top (z' := F 86 3) (by simp (disch := omega) only [up_k, up_j, up_eq]) ?_
        rw [hR.f]
        refine q_iconst C 1 dX2_closesNumber_72 ?_
        refine q_iadd C dX2_closesNumber_73 ?_
        refine q_put (T := TX2) (tyX := tyX2) (i := 3) (j := 3) (z := (s.f + 1)) (ty := .int) C rfl kd86 (by decide) rfl uws2 tyX2_ok nmX2 (by decide) (kd_ln.2.2.1 kd86) wd_183 rfl rfl rfl rfl (fsS_2_3 w _ _ _) (Nat.le_of_ble_eq_true rfl) dX2_closesNumber_74 ?_
        refine q_aload_n C 0 dX2_closesNumber_77 rfl ?_
        refine q_dup C dX2_closesNumber_78 rfl ?_
        refine q_get (T := TX2) (i := 5) C kd86 (by decide) rfl uws2 (by decide) wd_186 rfl dX2_closesNumber_79 ?_
        refine q_top (z' := F 86 5) (by simp (disch := omega) only [up_k, up_j, up_eq]) ?_
        rw [hR.o]
        refine q_iconst C 1 dX2_closesNumber_82 ?_
        refine q_iadd C dX2_closesNumber_83 ?_
        refine q_put (T := TX2) (tyX := tyX2) (i := 5) (j := 5) (z := (s.o + 1)) (ty := .int) C rfl kd86 (by decide) rfl uws2 tyX2_ok nmX2 (by decide) (kd_ln.2.2.1 kd86) wd_186 rfl rfl rfl rfl (fsS_2_5 w _ _ _) (Nat.le_of_ble_eq_true rfl) dX2_closesNumber_84 ?_
        refine q_aload_n C 0 dX2_closesNumber_87 rfl ?_
        refine q_iconst C (-1) dX2_closesNumber_88 ?_
        refine q_put (T := TX2) (tyX := tyX2) (i := 6) (j := 6) (z := (-1)) (ty := .int) C rfl kd86 (by decide) rfl uws2 tyX2_ok nmX2 (by decide) (kd_ln.2.2.1 kd86) wd_187 rfl rfl rfl rfl (fsS_2_6 w _ _ _) (Nat.le_of_ble_eq_true rfl) dX2_closesNumber_89 ?_
        refine q_iconst C 1 dX2_closesNumber_92 ?_
        refine q_zret C dX2_closesNumber_93 (by decide) ?_
        exact ⟨Or.inl ⟨rfl, by assumption, hR.clo hV (by assumption)⟩, clo_fr⟩
      · refine q_iconst C 0 dX2_closesNumber_27 ?_
        refine q_zret C dX2_closesNumber_28 (by decide) ?_
        first | exact ⟨Or.inr ⟨rfl, by assumption, rfl⟩, FrR.refl⟩ | (exfalso; omega)
  · refine q_if_eq C 27 dX2_closesNumber_8 ⟨by decide, by decide⟩  (by decide) (fun _ => ?_) (fun h => absurd h (by decide))
    refine q_iconst C 0 dX2_closesNumber_27 ?_
    refine q_zret C dX2_closesNumber_28 (by decide) ?_
    first | exact ⟨Or.inr ⟨rfl, by assumption, rfl⟩, FrR.refl⟩ | (exfalso; omega)

set_option maxRecDepth 100000 in
set_option maxHeartbeats 4000000 in
theorem k_X2_takes (l : Launch) {w : WP} {F : FF} {s : RS} {c : Int} (hV : RV s) (hR : RI F s) (hc : inR c) : Con l yX2_takes cX2_takes 2 (some .boolean) 3 w [.ref (adr w 86), .int (iI c)] F (QI w (fun z F' => (z = 1 ∧ (∃ s', stp s c = some s' ∧ RI F' s') ∨ z = 0 ∧ stp s c = none ∧ F = F') ∧ FrR F F')) := by
  refine Con.mk (lv := [(0, .ref (adr w 86)), (1, .int (iI c))]) (by decide) (Nat.le_of_ble_eq_true rfl) rfl ?_
  intro pg ev s0 mi be me co C hz
  have hv1 := hV.1
  have hv2 := hV.2.1
  have hv3 := hV.2.2.1
  have hv4 := hV.2.2.2.1
  have hv5 := hV.2.2.2.2.1
  refine q_iload_n C 1 dX2_takes_0 rfl ?_
  refine q_bipush C 48 dX2_takes_1 (by decide) ?_
  refine q_icmp_lt C 21 dX2_takes_3 ⟨by omega, by omega⟩ ⟨by decide, by decide⟩ (by decide) (fun h3 => ?_) (fun h3 => ?_)
  · refine q_iload_n C 1 dX2_takes_21 rfl ?_
    refine q_bipush C 44 dX2_takes_22 (by decide) ?_
    refine q_icmp_ne C 48 dX2_takes_24 ⟨by omega, by omega⟩ ⟨by decide, by decide⟩ (by decide) (fun h24 => ?_) (fun h24 => ?_)
    · refine q_iload_n C 1 dX2_takes_48 rfl ?_
      refine q_bipush C 47 dX2_takes_49 (by decide) ?_
      refine q_icmp_ne C 69 dX2_takes_51 ⟨by omega, by omega⟩ ⟨by decide, by decide⟩ (by decide) (fun h51 => ?_) (fun h51 => ?_)
      · refine q_iconst C 0 dX2_takes_69 ?_
        refine q_zret C dX2_takes_70 (by decide) ?_
        exact ⟨Or.inr ⟨rfl, (by unfold stp; first | (rw [if_pos ⟨by omega, by omega⟩]; assumption) | rw [if_neg (by omega), if_pos (by omega), if_neg (fun q => by first | exact absurd q.2 (by assumption) | (have := q.1; omega))] | rw [if_neg (by omega), if_neg (by omega), if_neg (fun q => by first | exact absurd q.2.2 (by assumption) | (have := q.1; have := q.2.1; omega))]), rfl⟩, FrR.refl⟩
      · refine q_aload_n C 0 dX2_takes_54 rfl ?_
        refine q_get (T := TX2) (i := 4) C kd86 (by decide) rfl uws2 (by decide) wd_185 rfl dX2_takes_55 ?_
        rw [hR.l]
        refine q_iconst C 3 dX2_takes_58 ?_
        refine q_icmp_ge C 69 dX2_takes_59 ⟨by omega, by omega⟩ ⟨by decide, by decide⟩ (by decide) (fun h59 => ?_) (fun h59 => ?_)
        · refine q_iconst C 0 dX2_takes_69 ?_
          refine q_zret C dX2_takes_70 (by decide) ?_
          exact ⟨Or.inr ⟨rfl, (by unfold stp; first | (rw [if_pos ⟨by omega, by omega⟩]; assumption) | rw [if_neg (by omega), if_pos (by omega), if_neg (fun q => by first | exact absurd q.2 (by assumption) | (have := q.1; omega))] | rw [if_neg (by omega), if_neg (by omega), if_neg (fun q => by first | exact absurd q.2.2 (by assumption) | (have := q.1; have := q.2.1; omega))]), rfl⟩, FrR.refl⟩
        · refine q_aload_n C 0 dX2_takes_62 rfl ?_
          refine q_cI (q_runV (As := []) (rest := []) C (k_X2_closesNumber l hV hR) kd86 (by decide) rfl wd_264 wd_262 wd_263 wd_80 wd_261 nd_X2_closesNumber rfl (by decide) ⟨Nat.zero_le _, Nat.zero_le _⟩ rfl (Nat.le_of_ble_eq_true rfl) dX2_takes_63) ?_
          rintro z F' ⟨⟨rfl, hS, hR'⟩ | ⟨rfl, hS, rfl⟩, hFr⟩
          · refine q_if_ne C 71 dX2_takes_66 ⟨by decide, by decide⟩  (by decide) (fun _ => ?_) (fun h => absurd h (by decide))
            refine q_aload_n C 0 dX2_takes_71 rfl ?_
            refine q_dup C dX2_takes_72 rfl ?_
            refine q_get (T := TX2) (i := 4) C kd86 (by decide) rfl uws2 (by decide) wd_185 rfl dX2_takes_73 ?_
            rw [show F' 86 4 = s.l from hR'.l]
            refine q_iconst C 1 dX2_takes_76 ?_
            refine q_iadd C dX2_takes_77 ?_
            refine q_put (T := TX2) (tyX := tyX2) (i := 4) (j := 4) (z := (s.l + 1)) (ty := .int) C rfl kd86 (by decide) rfl uws2 tyX2_ok nmX2 (by decide) (kd_ln.2.2.1 kd86) wd_185 rfl rfl rfl rfl (fsS_2_4 w _ _ _) (Nat.le_of_ble_eq_true rfl) dX2_takes_78 ?_
            refine q_aload_n C 0 dX2_takes_81 rfl ?_
            refine q_iconst C 0 dX2_takes_82 ?_
            refine q_put (T := TX2) (tyX := tyX2) (i := 5) (j := 5) (z := 0) (ty := .int) C rfl kd86 (by decide) rfl uws2 tyX2_ok nmX2 (by decide) (kd_ln.2.2.1 kd86) wd_186 rfl rfl rfl rfl (fsS_2_5 w _ _ _) (Nat.le_of_ble_eq_true rfl) dX2_takes_83 ?_
            refine q_iconst C 1 dX2_takes_86 ?_
            refine q_zret C dX2_takes_87 (by decide) ?_
            exact ⟨Or.inl ⟨rfl, _, (by unfold stp; rw [if_neg (by omega), if_neg (by omega), if_pos ⟨by omega, by omega, hS⟩]), RI.nl (s := clo s) hR'⟩, (hFr.up (by omega)).up (by omega)⟩
          · refine q_if_ne C 71 dX2_takes_66 ⟨by decide, by decide⟩  (by decide) (fun h => absurd h (by decide)) (fun _ => ?_)
            refine q_iconst C 0 dX2_takes_69 ?_
            refine q_zret C dX2_takes_70 (by decide) ?_
            exact ⟨Or.inr ⟨rfl, (by unfold stp; first | (rw [if_pos ⟨by omega, by omega⟩]; assumption) | rw [if_neg (by omega), if_pos (by omega), if_neg (fun q => by first | exact absurd q.2 (by assumption) | (have := q.1; omega))] | rw [if_neg (by omega), if_neg (by omega), if_neg (fun q => by first | exact absurd q.2.2 (by assumption) | (have := q.1; have := q.2.1; omega))]), rfl⟩, FrR.refl⟩
    · refine q_aload_n C 0 dX2_takes_27 rfl ?_
      refine q_get (T := TX2) (i := 5) C kd86 (by decide) rfl uws2 (by decide) wd_186 rfl dX2_takes_28 ?_
      rw [hR.o]
      refine q_iconst C 5 dX2_takes_31 ?_
      refine q_icmp_ge C 46 dX2_takes_32 ⟨by omega, by omega⟩ ⟨by decide, by decide⟩ (by decide) (fun h32 => ?_) (fun h32 => ?_)
      · refine q_iconst C 0 dX2_takes_46 ?_
        refine q_zret C dX2_takes_47 (by decide) ?_
        exact ⟨Or.inr ⟨rfl, (by unfold stp; first | (rw [if_pos ⟨by omega, by omega⟩]; assumption) | rw [if_neg (by omega), if_pos (by omega), if_neg (fun q => by first | exact absurd q.2 (by assumption) | (have := q.1; omega))] | rw [if_neg (by omega), if_neg (by omega), if_neg (fun q => by first | exact absurd q.2.2 (by assumption) | (have := q.1; have := q.2.1; omega))]), rfl⟩, FrR.refl⟩
      · refine q_aload_n C 0 dX2_takes_35 rfl ?_
        refine q_cI (q_runV (As := []) (rest := []) C (k_X2_closesNumber l hV hR) kd86 (by decide) rfl wd_264 wd_262 wd_263 wd_80 wd_261 nd_X2_closesNumber rfl (by decide) ⟨Nat.zero_le _, Nat.zero_le _⟩ rfl (Nat.le_of_ble_eq_true rfl) dX2_takes_36) ?_
        rintro z F' ⟨⟨rfl, hS, hR'⟩ | ⟨rfl, hS, rfl⟩, hFr⟩
        · refine q_if_eq C 46 dX2_takes_39 ⟨by decide, by decide⟩  (by decide) (fun h => absurd h (by decide)) (fun _ => ?_)
          refine q_iconst C 1 dX2_takes_42 ?_
          refine q_goto C 47 dX2_takes_43 (by decide) ?_
          refine q_zret C dX2_takes_47 (by decide) ?_
          exact ⟨Or.inl ⟨rfl, _, (by unfold stp; rw [if_neg (by omega), if_pos (by omega), if_pos ⟨by omega, hS⟩]), hR'⟩, hFr⟩
        · refine q_if_eq C 46 dX2_takes_39 ⟨by decide, by decide⟩  (by decide) (fun _ => ?_) (fun h => absurd h (by decide))
          refine q_iconst C 0 dX2_takes_46 ?_
          refine q_zret C dX2_takes_47 (by decide) ?_
          exact ⟨Or.inr ⟨rfl, (by unfold stp; first | (rw [if_pos ⟨by omega, by omega⟩]; assumption) | rw [if_neg (by omega), if_pos (by omega), if_neg (fun q => by first | exact absurd q.2 (by assumption) | (have := q.1; omega))] | rw [if_neg (by omega), if_neg (by omega), if_neg (fun q => by first | exact absurd q.2.2 (by assumption) | (have := q.1; have := q.2.1; omega))]), rfl⟩, FrR.refl⟩
  · refine q_iload_n C 1 dX2_takes_6 rfl ?_
    refine q_bipush C 57 dX2_takes_7 (by decide) ?_
    refine q_icmp_gt C 21 dX2_takes_9 ⟨by omega, by omega⟩ ⟨by decide, by decide⟩ (by decide) (fun h9 => ?_) (fun h9 => ?_)
    · refine q_iload_n C 1 dX2_takes_21 rfl ?_
      refine q_bipush C 44 dX2_takes_22 (by decide) ?_
      refine q_icmp_ne C 48 dX2_takes_24 ⟨by omega, by omega⟩ ⟨by decide, by decide⟩ (by decide) (fun h24 => ?_) (fun h24 => ?_)
      · refine q_iload_n C 1 dX2_takes_48 rfl ?_
        refine q_bipush C 47 dX2_takes_49 (by decide) ?_
        refine q_icmp_ne C 69 dX2_takes_51 ⟨by omega, by omega⟩ ⟨by decide, by decide⟩ (by decide) (fun h51 => ?_) (fun h51 => ?_)
        · refine q_iconst C 0 dX2_takes_69 ?_
          refine q_zret C dX2_takes_70 (by decide) ?_
          exact ⟨Or.inr ⟨rfl, (by unfold stp; first | (rw [if_pos ⟨by omega, by omega⟩]; assumption) | rw [if_neg (by omega), if_pos (by omega), if_neg (fun q => by first | exact absurd q.2 (by assumption) | (have := q.1; omega))] | rw [if_neg (by omega), if_neg (by omega), if_neg (fun q => by first | exact absurd q.2.2 (by assumption) | (have := q.1; have := q.2.1; omega))]), rfl⟩, FrR.refl⟩
        · refine q_aload_n C 0 dX2_takes_54 rfl ?_
          refine q_get (T := TX2) (i := 4) C kd86 (by decide) rfl uws2 (by decide) wd_185 rfl dX2_takes_55 ?_
          rw [hR.l]
          refine q_iconst C 3 dX2_takes_58 ?_
          refine q_icmp_ge C 69 dX2_takes_59 ⟨by omega, by omega⟩ ⟨by decide, by decide⟩ (by decide) (fun h59 => ?_) (fun h59 => ?_)
          · refine q_iconst C 0 dX2_takes_69 ?_
            refine q_zret C dX2_takes_70 (by decide) ?_
            exact ⟨Or.inr ⟨rfl, (by unfold stp; first | (rw [if_pos ⟨by omega, by omega⟩]; assumption) | rw [if_neg (by omega), if_pos (by omega), if_neg (fun q => by first | exact absurd q.2 (by assumption) | (have := q.1; omega))] | rw [if_neg (by omega), if_neg (by omega), if_neg (fun q => by first | exact absurd q.2.2 (by assumption) | (have := q.1; have := q.2.1; omega))]), rfl⟩, FrR.refl⟩
          · refine q_aload_n C 0 dX2_takes_62 rfl ?_
            refine q_cI (q_runV (As := []) (rest := []) C (k_X2_closesNumber l hV hR) kd86 (by decide) rfl wd_264 wd_262 wd_263 wd_80 wd_261 nd_X2_closesNumber rfl (by decide) ⟨Nat.zero_le _, Nat.zero_le _⟩ rfl (Nat.le_of_ble_eq_true rfl) dX2_takes_63) ?_
            rintro z F' ⟨⟨rfl, hS, hR'⟩ | ⟨rfl, hS, rfl⟩, hFr⟩
            · refine q_if_ne C 71 dX2_takes_66 ⟨by decide, by decide⟩  (by decide) (fun _ => ?_) (fun h => absurd h (by decide))
              refine q_aload_n C 0 dX2_takes_71 rfl ?_
              refine q_dup C dX2_takes_72 rfl ?_
              refine q_get (T := TX2) (i := 4) C kd86 (by decide) rfl uws2 (by decide) wd_185 rfl dX2_takes_73 ?_
              rw [show F' 86 4 = s.l from hR'.l]
              refine q_iconst C 1 dX2_takes_76 ?_
              refine q_iadd C dX2_takes_77 ?_
              refine q_put (T := TX2) (tyX := tyX2) (i := 4) (j := 4) (z := (s.l + 1)) (ty := .int) C rfl kd86 (by decide) rfl uws2 tyX2_ok nmX2 (by decide) (kd_ln.2.2.1 kd86) wd_185 rfl rfl rfl rfl (fsS_2_4 w _ _ _) (Nat.le_of_ble_eq_true rfl) dX2_takes_78 ?_
              refine q_aload_n C 0 dX2_takes_81 rfl ?_
              refine q_iconst C 0 dX2_takes_82 ?_
              refine q_put (T := TX2) (tyX := tyX2) (i := 5) (j := 5) (z := 0) (ty := .int) C rfl kd86 (by decide) rfl uws2 tyX2_ok nmX2 (by decide) (kd_ln.2.2.1 kd86) wd_186 rfl rfl rfl rfl (fsS_2_5 w _ _ _) (Nat.le_of_ble_eq_true rfl) dX2_takes_83 ?_
              refine q_iconst C 1 dX2_takes_86 ?_
              refine q_zret C dX2_takes_87 (by decide) ?_
              exact ⟨Or.inl ⟨rfl, _, (by unfold stp; rw [if_neg (by omega), if_neg (by omega), if_pos ⟨by omega, by omega, hS⟩]), RI.nl (s := clo s) hR'⟩, (hFr.up (by omega)).up (by omega)⟩
            · refine q_if_ne C 71 dX2_takes_66 ⟨by decide, by decide⟩  (by decide) (fun h => absurd h (by decide)) (fun _ => ?_)
              refine q_iconst C 0 dX2_takes_69 ?_
              refine q_zret C dX2_takes_70 (by decide) ?_
              exact ⟨Or.inr ⟨rfl, (by unfold stp; first | (rw [if_pos ⟨by omega, by omega⟩]; assumption) | rw [if_neg (by omega), if_pos (by omega), if_neg (fun q => by first | exact absurd q.2 (by assumption) | (have := q.1; omega))] | rw [if_neg (by omega), if_neg (by omega), if_neg (fun q => by first | exact absurd q.2.2 (by assumption) | (have := q.1; have := q.2.1; omega))]), rfl⟩, FrR.refl⟩
      · refine q_aload_n C 0 dX2_takes_27 rfl ?_
        refine q_get (T := TX2) (i := 5) C kd86 (by decide) rfl uws2 (by decide) wd_186 rfl dX2_takes_28 ?_
        rw [hR.o]
        refine q_iconst C 5 dX2_takes_31 ?_
        refine q_icmp_ge C 46 dX2_takes_32 ⟨by omega, by omega⟩ ⟨by decide, by decide⟩ (by decide) (fun h32 => ?_) (fun h32 => ?_)
        · refine q_iconst C 0 dX2_takes_46 ?_
          refine q_zret C dX2_takes_47 (by decide) ?_
          exact ⟨Or.inr ⟨rfl, (by unfold stp; first | (rw [if_pos ⟨by omega, by omega⟩]; assumption) | rw [if_neg (by omega), if_pos (by omega), if_neg (fun q => by first | exact absurd q.2 (by assumption) | (have := q.1; omega))] | rw [if_neg (by omega), if_neg (by omega), if_neg (fun q => by first | exact absurd q.2.2 (by assumption) | (have := q.1; have := q.2.1; omega))]), rfl⟩, FrR.refl⟩
        · refine q_aload_n C 0 dX2_takes_35 rfl ?_
          refine q_cI (q_runV (As := []) (rest := []) C (k_X2_closesNumber l hV hR) kd86 (by decide) rfl wd_264 wd_262 wd_263 wd_80 wd_261 nd_X2_closesNumber rfl (by decide) ⟨Nat.zero_le _, Nat.zero_le _⟩ rfl (Nat.le_of_ble_eq_true rfl) dX2_takes_36) ?_
          rintro z F' ⟨⟨rfl, hS, hR'⟩ | ⟨rfl, hS, rfl⟩, hFr⟩
          · refine q_if_eq C 46 dX2_takes_39 ⟨by decide, by decide⟩  (by decide) (fun h => absurd h (by decide)) (fun _ => ?_)
            refine q_iconst C 1 dX2_takes_42 ?_
            refine q_goto C 47 dX2_takes_43 (by decide) ?_
            refine q_zret C dX2_takes_47 (by decide) ?_
            exact ⟨Or.inl ⟨rfl, _, (by unfold stp; rw [if_neg (by omega), if_pos (by omega), if_pos ⟨by omega, hS⟩]), hR'⟩, hFr⟩
          · refine q_if_eq C 46 dX2_takes_39 ⟨by decide, by decide⟩  (by decide) (fun _ => ?_) (fun h => absurd h (by decide))
            refine q_iconst C 0 dX2_takes_46 ?_
            refine q_zret C dX2_takes_47 (by decide) ?_
            exact ⟨Or.inr ⟨rfl, (by unfold stp; first | (rw [if_pos ⟨by omega, by omega⟩]; assumption) | rw [if_neg (by omega), if_pos (by omega), if_neg (fun q => by first | exact absurd q.2 (by assumption) | (have := q.1; omega))] | rw [if_neg (by omega), if_neg (by omega), if_neg (fun q => by first | exact absurd q.2.2 (by assumption) | (have := q.1; have := q.2.1; omega))]), rfl⟩, FrR.refl⟩
    · refine q_aload_n C 0 dX2_takes_12 rfl ?_
      refine q_iload_n C 1 dX2_takes_13 rfl ?_
      refine q_bipush C 48 dX2_takes_14 (by decide) ?_
      refine q_isub C dX2_takes_16 ?_
      refine q_cI (q_runV (As := [.int (iI (c - 48))]) (rest := []) C (k_X2_takesDigit l hV hR (d := c - 48) ⟨by omega, by omega⟩) kd86 (by decide) rfl wd_252 wd_251 wd_1 wd_80 wd_249 nd_X2_takesDigit rfl (by decide) ⟨Nat.zero_le _, Nat.zero_le _⟩ rfl (Nat.le_of_ble_eq_true rfl) dX2_takes_17) ?_
      rintro z F' ⟨⟨rfl, s', hS, hR'⟩ | ⟨rfl, hS, rfl⟩, hFr⟩
      · refine q_zret C dX2_takes_20 (by decide) ?_
        exact ⟨Or.inl ⟨rfl, s', (by unfold stp; rw [if_pos ⟨by omega, by omega⟩]; exact hS), hR'⟩, hFr⟩
      · refine q_zret C dX2_takes_20 (by decide) ?_
        exact ⟨Or.inr ⟨rfl, (by unfold stp; first | (rw [if_pos ⟨by omega, by omega⟩]; assumption) | rw [if_neg (by omega), if_pos (by omega), if_neg (fun q => by first | exact absurd q.2 (by assumption) | (have := q.1; omega))] | rw [if_neg (by omega), if_neg (by omega), if_neg (fun q => by first | exact absurd q.2.2 (by assumption) | (have := q.1; have := q.2.1; omega))]), rfl⟩, FrR.refl⟩

set_option maxRecDepth 100000 in
set_option maxHeartbeats 4000000 in
theorem k_X2_restart (l : Launch) {w : WP} {F : FF} : Con l yX2_restart cX2_restart 2 none 0 w [.ref (adr w 86)] F (QV w (fun F' => RI F' rs0 ∧ FrR F F')) := by
  refine Con.mk (lv := [(0, .ref (adr w 86))]) (by decide) (Nat.le_of_ble_eq_true rfl) rfl ?_
  intro pg ev s0 mi be me co C hz
  refine q_iconst C 0 dX2_restart_0 ?_
  refine q_istore_n (lv' := [(1, .int (iI 0)), (0, .ref (adr w 86))]) C dX2_restart_1 (by decide) rfl ?_
  refine q_lv (lv' := [(0, .ref (adr w 86)), (1, .int (iI 0))]) [1, 0] rfl ?_
  refine wf2 (P := fun (i : Int) (G : FF) => Wq pg l ev _ s0 mi _ be me co _ w _ _ _ 2 [(0, .ref (adr w 86)), (1, .int (iI i))] [] G) (I := fun (i : Int) (G : FF) => 0 ≤ i ∧ i ≤ 40 ∧ (∀ x, 0 ≤ x → x < i → G 87 x = 0) ∧ FrR F G) (μ := fun (i : Int) (G : FF) => (40 - i).toNat) ?_ 0 F (⟨by omega, by omega, fun x a c => by omega, FrR.refl⟩)
  intro i G hI' ih2
  (try dsimp only at hI'); (try dsimp only at ih2); (try dsimp only)
  obtain ⟨hi0, hi1, hG, hGf⟩ := hI'
  refine q_iload_n C 1 dX2_restart_2 rfl ?_
  refine q_aload_n C 0 dX2_restart_3 rfl ?_
  refine q_get (T := TX2) (i := 0) C kd86 (by decide) rfl uws2 (by decide) wd_180 rfl dX2_restart_4 ?_
  refine q_alen (N := 40) C (by rw [kd87]; decide) ln87 dX2_restart_7 ?_
  refine q_icmp_ge C 24 dX2_restart_8 ⟨by omega, by omega⟩ ⟨by decide, by decide⟩ (by decide) (fun h8 => ?_) (fun h8 => ?_)
  · refine q_aload_n C 0 dX2_restart_24 rfl ?_
    refine q_iconst C 0 dX2_restart_25 ?_
    refine q_put (T := TX2) (tyX := tyX2) (i := 3) (j := 3) (z := 0) (ty := .int) C rfl kd86 (by decide) rfl uws2 tyX2_ok nmX2 (by decide) (kd_ln.2.2.1 kd86) wd_183 rfl rfl rfl rfl (fsS_2_3 w _ _ _) (Nat.le_of_ble_eq_true rfl) dX2_restart_26 ?_
    refine q_aload_n C 0 dX2_restart_29 rfl ?_
    refine q_iconst C 0 dX2_restart_30 ?_
    refine q_put (T := TX2) (tyX := tyX2) (i := 4) (j := 4) (z := 0) (ty := .int) C rfl kd86 (by decide) rfl uws2 tyX2_ok nmX2 (by decide) (kd_ln.2.2.1 kd86) wd_185 rfl rfl rfl rfl (fsS_2_4 w _ _ _) (Nat.le_of_ble_eq_true rfl) dX2_restart_31 ?_
    refine q_aload_n C 0 dX2_restart_34 rfl ?_
    refine q_iconst C 0 dX2_restart_35 ?_
    refine q_put (T := TX2) (tyX := tyX2) (i := 5) (j := 5) (z := 0) (ty := .int) C rfl kd86 (by decide) rfl uws2 tyX2_ok nmX2 (by decide) (kd_ln.2.2.1 kd86) wd_186 rfl rfl rfl rfl (fsS_2_5 w _ _ _) (Nat.le_of_ble_eq_true rfl) dX2_restart_36 ?_
    refine q_aload_n C 0 dX2_restart_39 rfl ?_
    refine q_iconst C (-1) dX2_restart_40 ?_
    refine q_put (T := TX2) (tyX := tyX2) (i := 6) (j := 6) (z := (-1)) (ty := .int) C rfl kd86 (by decide) rfl uws2 tyX2_ok nmX2 (by decide) (kd_ln.2.2.1 kd86) wd_187 rfl rfl rfl rfl (fsS_2_6 w _ _ _) (Nat.le_of_ble_eq_true rfl) dX2_restart_41 ?_
    refine q_vret C dX2_restart_44 ?_
    exact ⟨RI.re (fun x a c => hG x a (by omega)), (((hGf.up (by omega)).up (by omega)).up (by omega)).up (by omega)⟩
  · refine q_aload_n C 0 dX2_restart_11 rfl ?_
    refine q_get (T := TX2) (i := 0) C kd86 (by decide) rfl uws2 (by decide) wd_180 rfl dX2_restart_12 ?_
    refine q_iload_n C 1 dX2_restart_15 rfl ?_
    refine q_iconst C 0 dX2_restart_16 ?_
    refine q_zast C kd87 ⟨by omega, by rw [ln87]; omega⟩ (by omega) dX2_restart_17 ?_
    refine q_iinc (lv' := [(1, .int (iI (i + 1))), (0, .ref (adr w 86))]) C 1 dX2_restart_18 rfl (by decide) rfl ?_
    refine q_goto C 2 dX2_restart_21 (by decide) ?_
    refine q_lv (lv' := [(0, .ref (adr w 86)), (1, .int (iI (i + 1)))]) [1, 0] rfl ?_
    exact ih2 (i + 1) (up G 87 i 0) (⟨by omega, by omega, fun x a c => by by_cases q : x = i; subst q; exact up_eq; rw [up_j q]; exact hG x a (by omega), hGf.up (by omega)⟩) (by omega)

set_option maxRecDepth 100000 in
set_option maxHeartbeats 4000000 in
theorem k_X2_wordTold (l : Launch) {w : WP} {F : FF} {x : Int} (hx : 0 ≤ x ∧ x < 24) : Con l yX2_wordTold cX2_wordTold 2 (some .int) 1 w [.ref (adr w 86), .int (iI x)] F (QI w (fun z F' => z = F 88 x ∧ F = F')) := by
  refine Con.mk (lv := [(0, .ref (adr w 86)), (1, .int (iI x))]) (by decide) (Nat.le_of_ble_eq_true rfl) rfl ?_
  intro pg ev s0 mi be me co C hz
  refine q_aload_n C 0 dX2_wordTold_0 rfl ?_
  refine q_get (T := TX2) (i := 1) C kd86 (by decide) rfl uws2 (by decide) wd_181 rfl dX2_wordTold_1 ?_
  refine q_iload_n C 1 dX2_wordTold_4 rfl ?_
  refine q_cI (q_runSN (As := [.ref (adr w 88), .int (iI x)]) (rest := []) C (k_cli (F := F) (x := x) l kd88 ln88 ⟨by omega, by omega, by omega⟩) wd_291 wd_290 wd_77 nw_736 nd_X3_cell rfl (by decide) ⟨Nat.zero_le _, Nat.zero_le _⟩ rfl (Nat.le_of_ble_eq_true rfl) dX2_wordTold_5) ?_
  rintro z F' ⟨rfl, rfl⟩
  refine q_iret C dX2_wordTold_8 ?_
  exact ⟨rfl, rfl⟩

set_option maxRecDepth 100000 in
set_option maxHeartbeats 4000000 in
theorem k_X2_lineTold (l : Launch) {w : WP} {F : FF} {x : Int} (hx : 0 ≤ x ∧ x < 24) : Con l yX2_lineTold cX2_lineTold 2 (some .int) 1 w [.ref (adr w 86), .int (iI x)] F (QI w (fun z F' => z = F 89 x ∧ F = F')) := by
  refine Con.mk (lv := [(0, .ref (adr w 86)), (1, .int (iI x))]) (by decide) (Nat.le_of_ble_eq_true rfl) rfl ?_
  intro pg ev s0 mi be me co C hz
  refine q_aload_n C 0 dX2_lineTold_0 rfl ?_
  refine q_get (T := TX2) (i := 2) C kd86 (by decide) rfl uws2 (by decide) wd_182 rfl dX2_lineTold_1 ?_
  refine q_iload_n C 1 dX2_lineTold_4 rfl ?_
  refine q_cI (q_runSN (As := [.ref (adr w 89), .int (iI x)]) (rest := []) C (k_cli (F := F) (x := x) l kd89 ln89 ⟨by omega, by omega, by omega⟩) wd_291 wd_290 wd_77 nw_736 nd_X3_cell rfl (by decide) ⟨Nat.zero_le _, Nat.zero_le _⟩ rfl (Nat.le_of_ble_eq_true rfl) dX2_lineTold_5) ?_
  rintro z F' ⟨rfl, rfl⟩
  refine q_iret C dX2_lineTold_8 ?_
  exact ⟨rfl, rfl⟩

set_option maxRecDepth 100000 in
set_option maxHeartbeats 4000000 in
theorem k_X3_readBuffer (l : Launch) {w : WP} {F : FF} (hb1 : 0 ≤ F 0 6 ∧ F 0 6 ≤ 60) (hb2 : ∀ i, 0 ≤ i → i < F 0 6 → 33 ≤ F 85 i ∧ F 85 i ≤ 126) : Con l yX3_readBuffer cX3_readBuffer 2 (some .int) 4 w [.ref (adr w 0)] F (QI w (fun z F' => 0 ≤ z ∧ z ≤ F 0 6 ∧ FrR F F' ∧ ∃ s, rdp (F 85) z.toNat = some s ∧ RV s ∧ RI F' s ∧ (z < F 0 6 → stp s (F 85 z) = none))) := by
  refine Con.mk (lv := [(0, .ref (adr w 0))]) (by decide) (Nat.le_of_ble_eq_true rfl) rfl ?_
  intro pg ev s0 mi be me co C hz
  refine q_aload_n C 0 dX3_readBuffer_0 rfl ?_
  refine q_get (T := TX3) (i := 7) C kd0 (by decide) rfl uws3 (by decide) wd_211 rfl dX3_readBuffer_1 ?_
  refine q_cV (q_runV (As := []) (rest := []) C (k_X2_restart (F := F) l) kd86 (by decide) rfl wd_244 wd_242 wd_243 wd_80 wd_241 nd_X2_restart rfl (by decide) ⟨Nat.zero_le _, Nat.zero_le _⟩ rfl (Nat.le_of_ble_eq_true rfl) dX3_readBuffer_4) ?_
  rintro F' ⟨hR0, hFr0⟩
  refine q_iconst C 0 dX3_readBuffer_7 ?_
  refine q_istore_n (lv' := [(1, .int (iI 0)), (0, .ref (adr w 0))]) C dX3_readBuffer_8 (by decide) rfl ?_
  refine q_lv (lv' := [(0, .ref (adr w 0)), (1, .int (iI 0))]) [1, 0] rfl ?_
  refine wf3 (P := fun (i : Int) (G : FF) (s : RS) => Wq pg l ev _ s0 mi _ be me co _ w _ _ _ 9 [(0, .ref (adr w 0)), (1, .int (iI i))] [] G) (I := fun (i : Int) (G : FF) (s : RS) => 0 ≤ i ∧ i ≤ F 0 6 ∧ FrR F G ∧ rdp (F 85) i.toNat = some s ∧ RV s ∧ RI G s) (μ := fun (i : Int) (G : FF) (s : RS) => (F 0 6 - i).toNat) ?_ 0 F' rs0 (⟨by omega, by omega, hFr0, rfl, rs0_v, hR0⟩)
  intro i G s hI' ih9
  (try dsimp only at hI'); (try dsimp only at ih9); (try dsimp only)
  obtain ⟨hi0, hi1, hGf, hP, hV, hR⟩ := hI'
  refine q_iload_n C 1 dX3_readBuffer_9 rfl ?_
  refine q_aload_n C 0 dX3_readBuffer_10 rfl ?_
  refine q_get (T := TX3) (i := 6) C kd0 (by decide) rfl uws3 (by decide) wd_210 rfl dX3_readBuffer_11 ?_
  rw [hGf.b 0 (by omega)]
  refine q_icmp_ge C 50 dX3_readBuffer_14 ⟨by omega, by omega⟩ ⟨by omega, by omega⟩ (by decide) (fun h14 => ?_) (fun h14 => ?_)
  · refine q_aload_n C 0 dX3_readBuffer_50 rfl ?_
    refine q_get (T := TX3) (i := 6) C kd0 (by decide) rfl uws3 (by decide) wd_210 rfl dX3_readBuffer_51 ?_
    rw [hGf.b 0 (by omega)]
    refine q_iret C dX3_readBuffer_54 ?_
    exact ⟨by omega, by omega, hGf, s, by first | exact hP | (rw [show F 0 6 = i by omega]; exact hP), hV, hR, fun q => by first | exact hS | (exfalso; omega)⟩
  · refine q_iload_n C 1 dX3_readBuffer_17 rfl ?_
    refine q_aload_n C 0 dX3_readBuffer_18 rfl ?_
    refine q_get (T := TX3) (i := 5) C kd0 (by decide) rfl uws3 (by decide) wd_209 rfl dX3_readBuffer_19 ?_
    refine q_alen (N := 60) C (by rw [kd85]; decide) ln85 dX3_readBuffer_22 ?_
    refine q_icmp_ge C 50 dX3_readBuffer_23 ⟨by omega, by omega⟩ ⟨by decide, by decide⟩ (by decide) (fun h23 => ?_) (fun h23 => ?_)
    · refine q_aload_n C 0 dX3_readBuffer_50 rfl ?_
      refine q_get (T := TX3) (i := 6) C kd0 (by decide) rfl uws3 (by decide) wd_210 rfl dX3_readBuffer_51 ?_
      rw [hGf.b 0 (by omega)]
      refine q_iret C dX3_readBuffer_54 ?_
      exact ⟨by omega, by omega, hGf, s, by first | exact hP | (rw [show F 0 6 = i by omega]; exact hP), hV, hR, fun q => by first | exact hS | (exfalso; omega)⟩
    · refine q_aload_n C 0 dX3_readBuffer_26 rfl ?_
      refine q_get (T := TX3) (i := 7) C kd0 (by decide) rfl uws3 (by decide) wd_211 rfl dX3_readBuffer_27 ?_
      refine q_aload_n C 0 dX3_readBuffer_30 rfl ?_
      refine q_get (T := TX3) (i := 5) C kd0 (by decide) rfl uws3 (by decide) wd_209 rfl dX3_readBuffer_31 ?_
      refine q_iload_n C 1 dX3_readBuffer_34 rfl ?_
      refine q_iald C kd85 ⟨by omega, by rw [ln85]; omega⟩ dX3_readBuffer_35 ?_
      rw [hGf.b 85 (by omega)]
      have hc := hb2 i (by omega) (by omega)
      refine q_cI (q_runV (As := [.int (iI (F 85 i))]) (rest := []) C (k_X2_takes l hV hR (c := F 85 i) ⟨by omega, by omega⟩) kd86 (by decide) rfl wd_248 wd_246 wd_247 wd_80 wd_245 nd_X2_takes rfl (by decide) ⟨Nat.zero_le _, Nat.zero_le _⟩ rfl (Nat.le_of_ble_eq_true rfl) dX3_readBuffer_36) ?_
      rintro z F' ⟨⟨rfl, s', hS, hR'⟩ | ⟨rfl, hS, rfl⟩, hFr⟩
      · refine q_if_ne C 44 dX3_readBuffer_39 ⟨by decide, by decide⟩  (by decide) (fun _ => ?_) (fun h => absurd h (by decide))
        refine q_iinc (lv' := [(1, .int (iI (i + 1))), (0, .ref (adr w 0))]) C 1 dX3_readBuffer_44 rfl (by decide) rfl ?_
        refine q_goto C 9 dX3_readBuffer_47 (by decide) ?_
        refine q_lv (lv' := [(0, .ref (adr w 0)), (1, .int (iI (i + 1)))]) [1, 0] rfl ?_
        exact ih9 (i + 1) F' s' (⟨by omega, by omega, hGf.trans hFr, rdp_s hi0 hP hS, stp_v hV hS, hR'⟩) (by omega)
      · refine q_if_ne C 44 dX3_readBuffer_39 ⟨by decide, by decide⟩  (by decide) (fun h => absurd h (by decide)) (fun _ => ?_)
        refine q_iload_n C 1 dX3_readBuffer_42 rfl ?_
        refine q_iret C dX3_readBuffer_43 ?_
        exact ⟨by omega, by omega, hGf, s, by first | exact hP | (rw [show F 0 6 = i by omega]; exact hP), hV, hR, fun q => by first | exact hS | (exfalso; omega)⟩
