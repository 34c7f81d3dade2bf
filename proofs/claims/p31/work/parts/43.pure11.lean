/-! the table changed: words gone and come, loans ended, nights -/
theorem whv_rem {r : Rw} (hI : Iv r) {x : Int} (hx : home r x ≠ -1) {j : Int} (h0 : 0 ≤ j) : whv (rem r (home r x) (plc r x)) j = if j = x then -1 else if home r j = home r x ∧ plc r x < plc r j then whv r j - 1 else whv r j := by
  obtain ⟨y0, y1, q0, q1, hw⟩ := home_at hI hx
  have hI2 := rem_iv hI ⟨y0, y1⟩ ⟨q0, q1⟩
  have hh := rem_home hI ⟨y0, y1⟩ ⟨q0, q1⟩ j
  rw [hw] at hh
  by_cases e : j = x
  · rw [if_pos e] at hh ⊢
    unfold whv
    rw [if_pos hh]
  · rw [if_neg e] at hh ⊢
    have hc := whv_c hI j
    rcases hc with hc | hc
    · rw [if_neg (by omega), hc.2.2]
      unfold whv
      rw [if_pos (by omega)]
    · obtain ⟨a, b, c, d, f, g⟩ := hc
      have hj := (W0_i hI (l := home r j) (p := plc r j) ⟨a, b⟩ h0).mpr ⟨rfl, rfl⟩
      rw [W0_in ⟨c, f⟩] at hj
      have hsz := rem_sz hI ⟨y0, y1⟩ ⟨q0, q1⟩ (l := home r j) a b
      have key : ∀ p', 0 ≤ p' → p' < rem r (home r x) (plc r x) (home r j) → wa (rem r (home r x) (plc r x)) (home r j) p' = j → whv (rem r (home r x) (plc r x)) j = 8 * home r j + p' := by
        intro p' a1 a2 a3
        have hp := (W0_i hI2 (l := home r j) (p := p') ⟨a, b⟩ h0).mp (by rw [W0_in ⟨a1, a2⟩]; exact a3)
        unfold whv
        rw [if_neg (by omega), hp.1, hp.2]
      have hsy := hI.sz y0 y1
      by_cases e2 : home r j = home r x
      · have f2 : plc r j < r (home r x) := by rw [← e2]; exact f
        have hne : plc r j ≠ plc r x := by
          intro e3
          rw [e2, e3] at hj
          exact e (hj.symm.trans hw)
        rw [if_pos e2] at hsz
        by_cases e3 : plc r x < plc r j
        · rw [if_pos ⟨e2, e3⟩, key (plc r j - 1) (by omega) (by omega) (by rw [rem_wa hI ⟨y0, y1⟩ ⟨q0, q1⟩ a b (by omega) (by omega), if_pos e2, if_neg (by omega), if_pos (by omega), show plc r j - 1 + 1 = plc r j by omega, ← e2]; exact hj)]
          omega
        · rw [if_neg (by omega), key (plc r j) c (by omega) (by rw [rem_wa hI ⟨y0, y1⟩ ⟨q0, q1⟩ a b c d, if_pos e2, if_pos (by omega), ← e2]; exact hj)]
          omega
      · rw [if_neg e2] at hsz
        rw [if_neg (fun q => e2 q.1), key (plc r j) c (by omega) (by rw [rem_wa hI ⟨y0, y1⟩ ⟨q0, q1⟩ a b c d, if_neg e2]; exact hj)]
        omega
theorem whv_ins {r : Rw} (hI : Iv r) {x y p : Int} (hx0 : 0 ≤ x ∧ x < 40) (hx : home r x = -1) (hy : 0 ≤ y ∧ y < 16) (hp : 0 ≤ p ∧ p ≤ r y) (hs : r y < 6) {j : Int} (h0 : 0 ≤ j) : whv (ins r x y p) j = if j = x then 8 * y + p else if home r j = y ∧ p ≤ plc r j then whv r j + 1 else whv r j := by
  have hI2 := ins_iv hI hx0 hx hy hp hs
  have hh := ins_home hI hx0 hx hy hp hs j
  have key : ∀ l' p', 0 ≤ l' → l' < 16 → 0 ≤ p' → p' < ins r x y p l' → wa (ins r x y p) l' p' = j → whv (ins r x y p) j = 8 * l' + p' := by
    intro l' p' b1 b2 a1 a2 a3
    have hp := (W0_i hI2 (l := l') (p := p') ⟨b1, b2⟩ h0).mp (by rw [W0_in ⟨a1, a2⟩]; exact a3)
    unfold whv
    rw [if_neg (by omega), hp.1, hp.2]
  have hszy := ins_sz (x := x) hy hp (l := y) hy.1 hy.2
  rw [if_pos rfl] at hszy
  by_cases e : j = x
  · rw [if_pos e]
    exact key y p hy.1 hy.2 hp.1 (by omega) (by rw [ins_wa hy hp hs hy.1 hy.2 hp.1 (by omega), if_pos rfl, if_neg (by omega), if_pos rfl, e])
  · rw [if_neg e] at hh ⊢
    have hc := whv_c hI j
    rcases hc with hc | hc
    · rw [if_neg (by omega), hc.2.2]
      unfold whv
      rw [if_pos (by omega)]
    · obtain ⟨a, b, c, d, f, g⟩ := hc
      have hj := (W0_i hI (l := home r j) (p := plc r j) ⟨a, b⟩ h0).mpr ⟨rfl, rfl⟩
      rw [W0_in ⟨c, f⟩] at hj
      have hsz := ins_sz (x := x) hy hp (l := home r j) a b
      by_cases e2 : home r j = y
      · have f2 : plc r j < r y := by rw [← e2]; exact f
        rw [if_pos e2] at hsz
        by_cases e3 : p ≤ plc r j
        · rw [if_pos ⟨e2, e3⟩, key y (plc r j + 1) hy.1 hy.2 (by omega) (by omega) (by rw [ins_wa hy hp hs hy.1 hy.2 (by omega) (by omega), if_pos rfl, if_neg (by omega), if_neg (by omega), if_pos (by omega), show plc r j + 1 - 1 = plc r j by omega, ← e2]; exact hj)]
          omega
        · rw [if_neg (by omega), key y (plc r j) hy.1 hy.2 c (by omega) (by rw [ins_wa hy hp hs hy.1 hy.2 c d, if_pos rfl, if_pos (by omega), ← e2]; exact hj)]
          omega
      · rw [if_neg e2] at hsz
        rw [if_neg (fun q => e2 q.1), key (home r j) (plc r j) a b c (by omega) (by rw [ins_wa hy hp hs a b c d, if_neg e2]; exact hj)]
        omega
theorem la_rem {r : Rw} (hI : Iv r) {y q : Int} (hy : 0 ≤ y ∧ y < 16) (hq : 0 ≤ q ∧ q < r y) : la (rem r y q) y = la r y ↔ ¬ q = r y - 1 := by
  have hs := hI.sz hy.1 hy.2
  have hsz := rem_sz hI hy hq (l := y) hy.1 hy.2
  rw [if_pos rfl] at hsz
  have hl : la r y = wa r y (r y - 1) := by unfold la; rw [if_neg (by omega)]
  have hw := hI.wd hy.1 hy.2 (p := r y - 1) (by omega) (by omega)
  by_cases e : r y = 1
  · have : la (rem r y q) y = -1 := by unfold la; rw [if_pos (by omega)]
    rw [this, hl]
    constructor
    · intro g; omega
    · intro g; omega
  · have h1 : la (rem r y q) y = wa (rem r y q) y (r y - 2) := by
      unfold la
      rw [if_neg (by omega), hsz, show r y - 1 - 1 = r y - 2 by omega]
    rw [h1, hl, rem_wa hI hy hq hy.1 hy.2 (by omega) (by omega), if_pos rfl]
    by_cases e2 : q = r y - 1
    · rw [if_pos (by omega)]
      constructor
      · intro g
        have := (hI.inj hy.1 hy.2 (p := r y - 2) (by omega) (by omega) hy.1 hy.2 (p' := r y - 1) (by omega) (by omega) g).2
        omega
      · intro g; exact absurd e2 g
    · rw [if_neg (by omega), if_pos (by omega), show r y - 2 + 1 = r y - 1 by omega]
      exact ⟨fun _ => e2, fun _ => rfl⟩
theorem la_ins {r : Rw} (hI : Iv r) {x y p : Int} (hx0 : 0 ≤ x ∧ x < 40) (hx : home r x = -1) (hy : 0 ≤ y ∧ y < 16) (hp : 0 ≤ p ∧ p ≤ r y) (hs : r y < 6) : la (ins r x y p) y = la r y ↔ ¬ p = r y := by
  have hszy := ins_sz (x := x) hy hp (l := y) hy.1 hy.2
  rw [if_pos rfl] at hszy
  have h1 : la (ins r x y p) y = wa (ins r x y p) y (r y) := by
    unfold la
    rw [if_neg (by omega), hszy, show r y + 1 - 1 = r y by omega]
  rw [h1, ins_wa hy hp hs hy.1 hy.2 (by omega) (by omega), if_pos rfl, if_neg (by omega)]
  by_cases e : p = r y
  · rw [if_pos e.symm]
    constructor
    · intro g
      unfold la at g
      by_cases e2 : r y = 0
      · rw [if_pos e2] at g; omega
      · rw [if_neg e2] at g
        exact absurd g.symm (home_no hI hx hy.1 hy.2 (by omega) (by omega))
    · intro g; exact absurd e g
  · rw [if_neg (by omega), if_pos (by omega)]
    unfold la
    rw [if_neg (by omega)]
    exact ⟨fun _ => e, fun _ => rfl⟩
/-! where, word by word -/
def lvF (F : FF) (a : Nat) (y q i : Int) : FF := fun k j => if k = a ∧ (0 ≤ j ∧ j < i) ∧ 0 ≤ F a j ∧ F a j / 8 = y ∧ q < F a j then F a j - 1 else F k j
theorem lvF_0 {F : FF} {a : Nat} {y q : Int} : lvF F a y q 0 = F := by
  funext k j; unfold lvF; rw [if_neg (by omega)]
theorem lvF_i {F : FF} {a : Nat} {y q i : Int} : lvF F a y q i a i = F a i := by unfold lvF; rw [if_neg (by omega)]
theorem lvF_x {F : FF} {a : Nat} {y i x : Int} : lvF F a y (F a x) i a x = F a x := by unfold lvF; rw [if_neg (by omega)]
theorem lvF_k {F : FF} {a k : Nat} {y q i : Int} (h : k ≠ a) : lvF F a y q i k = F k := by funext j; unfold lvF; rw [if_neg (fun g => h g.1)]
theorem lvF_t {F : FF} {a : Nat} {y q i : Int} (h0 : 0 ≤ i) (h : 0 ≤ F a i ∧ F a i / 8 = y ∧ q < F a i) : up (lvF F a y q i) a i (F a i - 1) = lvF F a y q (i + 1) := by
  funext k j
  unfold up lvF
  by_cases e : k = a ∧ j = i
  · obtain ⟨rfl, rfl⟩ := e
    rw [if_pos ⟨rfl, rfl⟩, if_pos ⟨rfl, ⟨h0, by omega⟩, h⟩]
  · rw [if_neg e]
    by_cases g : k = a ∧ (0 ≤ j ∧ j < i) ∧ 0 ≤ F a j ∧ F a j / 8 = y ∧ q < F a j
    · rw [if_pos g, if_pos ⟨g.1, ⟨g.2.1.1, by omega⟩, g.2.2⟩]
    · rw [if_neg g, if_neg (fun g2 => g ⟨g2.1, ⟨g2.2.1.1, by have : ¬ j = i := fun e2 => e ⟨g2.1, e2⟩; omega⟩, g2.2.2⟩)]
theorem lvF_f {F : FF} {a : Nat} {y q i : Int} (h : ¬ (0 ≤ F a i ∧ F a i / 8 = y ∧ q < F a i)) : up (lvF F a y q i) a i (F a i - 0) = lvF F a y q (i + 1) := by
  funext k j
  unfold up lvF
  by_cases e : k = a ∧ j = i
  · obtain ⟨rfl, rfl⟩ := e
    rw [if_pos ⟨rfl, rfl⟩, if_neg (fun g => h g.2.2)]; omega
  · rw [if_neg e]
    by_cases g : k = a ∧ (0 ≤ j ∧ j < i) ∧ 0 ≤ F a j ∧ F a j / 8 = y ∧ q < F a j
    · rw [if_pos g, if_pos ⟨g.1, ⟨g.2.1.1, by omega⟩, g.2.2⟩]
    · rw [if_neg g, if_neg (fun g2 => g ⟨g2.1, ⟨g2.2.1.1, by have : ¬ j = i := fun e2 => e ⟨g2.1, e2⟩; omega⟩, g2.2.2⟩)]
def cmF (F : FF) (a : Nat) (y p i : Int) : FF := fun k j => if k = a ∧ (0 ≤ j ∧ j < i) ∧ 0 ≤ F a j ∧ F a j / 8 = y ∧ p ≤ F a j % 8 then F a j + 1 else F k j
theorem cmF_0 {F : FF} {a : Nat} {y q : Int} : cmF F a y q 0 = F := by
  funext k j; unfold cmF; rw [if_neg (by omega)]
theorem cmF_i {F : FF} {a : Nat} {y q i : Int} : cmF F a y q i a i = F a i := by unfold cmF; rw [if_neg (by omega)]
theorem cmF_k {F : FF} {a k : Nat} {y q i : Int} (h : k ≠ a) : cmF F a y q i k = F k := by funext j; unfold cmF; rw [if_neg (fun g => h g.1)]
theorem cmF_t {F : FF} {a : Nat} {y q i : Int} (h0 : 0 ≤ i) (h : 0 ≤ F a i ∧ F a i / 8 = y ∧ q ≤ F a i % 8) : up (cmF F a y q i) a i (F a i + 1) = cmF F a y q (i + 1) := by
  funext k j
  unfold up cmF
  by_cases e : k = a ∧ j = i
  · obtain ⟨rfl, rfl⟩ := e
    rw [if_pos ⟨rfl, rfl⟩, if_pos ⟨rfl, ⟨h0, by omega⟩, h⟩]
  · rw [if_neg e]
    by_cases g : k = a ∧ (0 ≤ j ∧ j < i) ∧ 0 ≤ F a j ∧ F a j / 8 = y ∧ q ≤ F a j % 8
    · rw [if_pos g, if_pos ⟨g.1, ⟨g.2.1.1, by omega⟩, g.2.2⟩]
    · rw [if_neg g, if_neg (fun g2 => g ⟨g2.1, ⟨g2.2.1.1, by have : ¬ j = i := fun e2 => e ⟨g2.1, e2⟩; omega⟩, g2.2.2⟩)]
theorem cmF_f {F : FF} {a : Nat} {y q i : Int} (h : ¬ (0 ≤ F a i ∧ F a i / 8 = y ∧ q ≤ F a i % 8)) : up (cmF F a y q i) a i (F a i + 0) = cmF F a y q (i + 1) := by
  funext k j
  unfold up cmF
  by_cases e : k = a ∧ j = i
  · obtain ⟨rfl, rfl⟩ := e
    rw [if_pos ⟨rfl, rfl⟩, if_neg (fun g => h g.2.2)]; omega
  · rw [if_neg e]
    by_cases g : k = a ∧ (0 ≤ j ∧ j < i) ∧ 0 ≤ F a j ∧ F a j / 8 = y ∧ q ≤ F a j % 8
    · rw [if_pos g, if_pos ⟨g.1, ⟨g.2.1.1, by omega⟩, g.2.2⟩]
    · rw [if_neg g, if_neg (fun g2 => g ⟨g2.1, ⟨g2.2.1.1, by have : ¬ j = i := fun e2 => e ⟨g2.1, e2⟩; omega⟩, g2.2.2⟩)]
/-- loans ended at a line; s: 1 if its last word is the same -/
def elG (F : FF) (b : Nat) (y s i : Int) : FF := fun k j => if k = b ∧ (0 ≤ j ∧ j < i) ∧ (j = y ∨ (F b j = y ∧ s = 0)) then -1 else F k j
theorem elG_0 {F : FF} {b : Nat} {y s : Int} : elG F b y s 0 = F := by
  funext k j; unfold elG; rw [if_neg (by omega)]
theorem elG_i {F : FF} {b : Nat} {y s i : Int} : elG F b y s i b i = F b i := by unfold elG; rw [if_neg (by omega)]
theorem elG_k {F : FF} {b k : Nat} {y s i : Int} (h : k ≠ b) : elG F b y s i k = F k := by funext j; unfold elG; rw [if_neg (fun g => h g.1)]
theorem elG_t {F : FF} {b : Nat} {y s i : Int} (h0 : 0 ≤ i) (h : i = y ∨ (F b i = y ∧ s = 0)) : up (elG F b y s i) b i (-1) = elG F b y s (i + 1) := by
  funext k j
  unfold up elG
  by_cases e : k = b ∧ j = i
  · obtain ⟨rfl, rfl⟩ := e
    rw [if_pos ⟨rfl, rfl⟩, if_pos ⟨rfl, ⟨h0, by omega⟩, h⟩]
  · rw [if_neg e]
    by_cases g : k = b ∧ (0 ≤ j ∧ j < i) ∧ (j = y ∨ (F b j = y ∧ s = 0))
    · rw [if_pos g, if_pos ⟨g.1, ⟨g.2.1.1, by omega⟩, g.2.2⟩]
    · rw [if_neg g, if_neg (fun g2 => g ⟨g2.1, ⟨g2.2.1.1, by have : ¬ j = i := fun e2 => e ⟨g2.1, e2⟩; omega⟩, g2.2.2⟩)]
theorem elG_f {F : FF} {b : Nat} {y s i : Int} (h : ¬ (i = y ∨ (F b i = y ∧ s = 0))) : up (elG F b y s i) b i (F b i) = elG F b y s (i + 1) := by
  funext k j
  unfold up elG
  by_cases e : k = b ∧ j = i
  · obtain ⟨rfl, rfl⟩ := e
    rw [if_pos ⟨rfl, rfl⟩, if_neg (fun g => h g.2.2)]
  · rw [if_neg e]
    by_cases g : k = b ∧ (0 ≤ j ∧ j < i) ∧ (j = y ∨ (F b j = y ∧ s = 0))
    · rw [if_pos g, if_pos ⟨g.1, ⟨g.2.1.1, by omega⟩, g.2.2⟩]
    · rw [if_neg g, if_neg (fun g2 => g ⟨g2.1, ⟨g2.2.1.1, by have : ¬ j = i := fun e2 => e ⟨g2.1, e2⟩; omega⟩, g2.2.2⟩)]
/-- the table behind a word that leaves -/
theorem TW_lv {F : FF} {a : Nat} {r : Rw} {x i : Int} (hW : TW F a r) (hI : Iv r) (hx0 : 0 ≤ x ∧ x < 40) (hx : home r x ≠ -1) (hi : i = 40) : TW (up (lvF F a (home r x) (F a x) i) a x (-1)) a (rem r (home r x) (plc r x)) := by
  intro j h0 h1
  rw [whv_rem hI hx h0]
  by_cases e : j = x
  · rw [if_pos e, e, up_eq]
  · rw [if_neg e, up_j e]
    have hc := whv_c hI j
    have hcx := whv_c hI x
    have hj := hW j h0 h1
    have hjx := hW x hx0.1 hx0.2
    unfold lvF
    by_cases g : home r j = home r x ∧ plc r x < plc r j
    · rw [if_pos g, if_pos ⟨rfl, ⟨h0, by omega⟩, by omega, by omega, by omega⟩, hj]
    · rw [if_neg g, if_neg (fun g2 => g (by obtain ⟨_, _, g3, g4, g5⟩ := g2; omega)), hj]
theorem TL_lv {F : FF} {b : Nat} {r : Rw} {y q : Int} (hL : TL F b r) (hI : Iv r) (hy : 0 ≤ y ∧ y < 16) (hq : 0 ≤ q ∧ q < r y) : TL (elG F b y (if la (rem r y q) y = la r y then 1 else 0) 16) b (rem r y q) := by
  intro j h0 h1
  have hl := hL j h0 h1
  have hla := la_rem hI hy hq
  rw [rem_ld hI hy hq h0 h1]
  unfold elG
  by_cases e : j = y
  · rw [if_pos ⟨rfl, ⟨h0, by omega⟩, Or.inl e⟩, if_pos e]; rfl
  · rw [if_neg e]
    by_cases g : r (112 + j) = y + 1 ∧ q = r y - 1
    · rw [if_pos g, if_pos ⟨rfl, ⟨h0, by omega⟩, Or.inr ⟨by omega, if_neg (fun g2 => hla.mp g2 g.2)⟩⟩]; rfl
    · rw [if_neg g, if_neg (fun g2 => ?_)]
      · exact hl
      · obtain ⟨_, _, g3⟩ := g2
        rcases g3 with g3 | ⟨g3, g4⟩
        · exact e g3
        · by_cases g5 : la (rem r y q) y = la r y
          · rw [if_pos g5] at g4; omega
          · refine g ⟨by omega, ?_⟩
            apply Classical.byContradiction
            intro g6
            exact g5 (hla.mpr g6)
theorem TW_cm {F : FF} {a : Nat} {r : Rw} {x y p i : Int} (hW : TW F a r) (hI : Iv r) (hx0 : 0 ≤ x ∧ x < 40) (hx : home r x = -1) (hy : 0 ≤ y ∧ y < 16) (hp : 0 ≤ p ∧ p ≤ r y) (hs : r y < 6) (hi : i = 40) : TW (up (cmF F a y p i) a x (8 * y + p)) a (ins r x y p) := by
  intro j h0 h1
  rw [whv_ins hI hx0 hx hy hp hs h0]
  by_cases e : j = x
  · rw [if_pos e, e, up_eq]
  · rw [if_neg e, up_j e]
    have hc := whv_c hI j
    have hj := hW j h0 h1
    unfold cmF
    by_cases g : home r j = y ∧ p ≤ plc r j
    · rw [if_pos g, if_pos ⟨rfl, ⟨h0, by omega⟩, by omega, by omega, by omega⟩, hj]
    · rw [if_neg g, if_neg (fun g2 => g (by obtain ⟨_, _, g3, g4, g5⟩ := g2; omega)), hj]
theorem TL_cm {F : FF} {b : Nat} {r : Rw} {x y p : Int} (hL : TL F b r) (hI : Iv r) (hx0 : 0 ≤ x ∧ x < 40) (hx : home r x = -1) (hy : 0 ≤ y ∧ y < 16) (hp : 0 ≤ p ∧ p ≤ r y) (hs : r y < 6) : TL (elG F b y (if la (ins r x y p) y = la r y then 1 else 0) 16) b (ins r x y p) := by
  intro j h0 h1
  have hl := hL j h0 h1
  have hla := la_ins hI hx0 hx hy hp hs
  rw [ins_ld hy hp hs h0 h1]
  unfold elG
  by_cases e : j = y
  · rw [if_pos ⟨rfl, ⟨h0, by omega⟩, Or.inl e⟩, if_pos e]; rfl
  · rw [if_neg e]
    by_cases g : r (112 + j) = y + 1 ∧ p = r y
    · rw [if_pos g, if_pos ⟨rfl, ⟨h0, by omega⟩, Or.inr ⟨by omega, if_neg (fun g2 => hla.mp g2 g.2)⟩⟩]; rfl
    · rw [if_neg g, if_neg (fun g2 => ?_)]
      · exact hl
      · obtain ⟨_, _, g3⟩ := g2
        rcases g3 with g3 | ⟨g3, g4⟩
        · exact e g3
        · by_cases g5 : la (ins r x y p) y = la r y
          · rw [if_pos g5] at g4; omega
          · refine g ⟨by omega, ?_⟩
            apply Classical.byContradiction
            intro g6
            exact g5 (hla.mpr g6)
/-! nights: the numbers -/
def wnF (F : FF) (n : Nat) (i : Int) : FF := fun k j => if k = n ∧ (6 ≤ j ∧ j < 6 + i) ∧ 0 < F n j then F n j - 1 else F k j
theorem wnF_0 {F : FF} {n : Nat} : wnF F n 0 = F := by
  funext k j; unfold wnF; rw [if_neg (by omega)]
theorem wnF_i {F : FF} {n : Nat} {i : Int} : wnF F n i n (6 + i) = F n (6 + i) := by unfold wnF; rw [if_neg (by omega)]
theorem wnF_lo {F : FF} {n : Nat} {i j : Int} (h : j < 6) : wnF F n i n j = F n j := by unfold wnF; rw [if_neg (by omega)]
theorem wnF_hi {F : FF} {n : Nat} {i j : Int} (h : 6 + i ≤ j) : wnF F n i n j = F n j := by unfold wnF; rw [if_neg (by omega)]
theorem wnF_k {F : FF} {n k : Nat} {i : Int} (h : k ≠ n) : wnF F n i k = F k := by funext j; unfold wnF; rw [if_neg (fun g => h g.1)]
theorem wnF_s {F : FF} {n : Nat} {i z : Int} (h0 : 0 ≤ i) (hz : (0 < F n (6 + i) ∧ z = F n (6 + i) - 1) ∨ (¬ 0 < F n (6 + i) ∧ z = F n (6 + i) - 0)) : up (wnF F n i) n (6 + i) z = wnF F n (i + 1) := by
  funext k j
  unfold up wnF
  by_cases e : k = n ∧ j = 6 + i
  · obtain ⟨rfl, rfl⟩ := e
    rw [if_pos ⟨rfl, rfl⟩]
    rcases hz with ⟨a, b⟩ | ⟨a, b⟩
    · rw [if_pos ⟨rfl, ⟨by omega, by omega⟩, a⟩, b]
    · rw [if_neg (fun g => a g.2.2), b]; omega
  · rw [if_neg e]
    by_cases g : k = n ∧ (6 ≤ j ∧ j < 6 + i) ∧ 0 < F n j
    · rw [if_pos g, if_pos ⟨g.1, ⟨g.2.1.1, by omega⟩, g.2.2⟩]
    · rw [if_neg g, if_neg (fun g2 => g ⟨g2.1, ⟨g2.2.1.1, by have : ¬ j = 6 + i := fun e2 => e ⟨g2.1, e2⟩; omega⟩, g2.2.2⟩)]
theorem TN_wn {F : FF} {n : Nat} {r : Rw} {i : Int} (hN : TN F n r) (hi : i = 4) : TN (up (wnF F n i) n 3 (r 179 + 1)) n (wn r) := by
  obtain ⟨⟨h0, h1, h2, h3, h4, h5⟩, h6⟩ := hN
  subst hi
  refine ⟨⟨?_, ?_, ?_, ?_, ?_, ?_⟩, fun d d0 d1 => ⟨?_, ?_⟩⟩
  · rw [up_j (by omega), wnF_lo (by omega), wn_hi _ (by omega) (by omega)]; exact h0
  · rw [up_j (by omega), wnF_lo (by omega), wn_hi _ (by omega) (by omega)]; exact h1
  · rw [up_j (by omega), wnF_lo (by omega), wn_hi _ (by omega) (by omega)]; exact h2
  · rw [up_eq]; exact (if_pos rfl).symm
  · rw [up_j (by omega), wnF_lo (by omega), wn_hi _ (by omega) (by omega)]; exact h4
  · rw [up_j (by omega), wnF_lo (by omega), wn_hi _ (by omega) (by omega)]; exact h5
  · rw [up_j (by omega), wn_w r d0 d1]
    have := (h6 d d0 d1).1
    unfold wnF
    by_cases g : 0 < r (128 + d)
    · rw [if_pos g, if_pos ⟨rfl, ⟨by omega, by omega⟩, by omega⟩, this]
    · rw [if_neg g, if_neg (fun g2 => g (by have := g2.2.2; omega)), this]
  · rw [up_j (by omega), wnF_hi (by omega), wn_hi _ (by omega) (by omega)]; exact (h6 d d0 d1).2
theorem whv_cg {r s : Rw} (hI : Iv r) (h : ∀ j, 0 ≤ j → j < 112 → s j = r j) (x : Int) : whv s x = whv r x := by
  obtain ⟨h1, h2, _⟩ := iv_same hI h
  unfold whv
  rw [h1, h2]
/-- what is told of the table as a whole -/
def TA (F : FF) (a b n t : Nat) (r : Rw) : Prop := TW F a r ∧ TL F b r ∧ TN F n r ∧ TT F t r ∧ Iv r
theorem TW_wn {F : FF} {a : Nat} {r : Rw} (h : TW F a r) (hI : Iv r) : TW F a (wn r) := fun x h0 h1 => by rw [whv_cg hI (fun j _ b => wn_lo r (by omega))]; exact h x h0 h1
theorem TL_wn {F : FF} {b : Nat} {r : Rw} (h : TL F b r) : TL F b (wn r) := fun x h0 h1 => by rw [wn_lo r (by omega)]; exact h x h0 h1
theorem TT_wn {F : FF} {t : Nat} {r : Rw} (h : TT F t r) : TT F t (wn r) := fun x h0 h1 => by rw [wn_hi r (by omega) (by omega)]; exact h x h0 h1
/-- the table behind a theft; s: the row ahead of it, with the nights told on -/
theorem TA_stl {F G G' : FF} {a b n t : Nat} {s : Rw} {x : Int} (hI : Iv s) (hx0 : 0 ≤ x ∧ x < 40) (hx : home s x ≠ -1) (hd : a ≠ n ∧ a ≠ t ∧ b ≠ n ∧ b ≠ t ∧ n ≠ t)
    (hW : TW G a (rem s (home s x) (plc s x))) (hL : TL G b (rem s (home s x) (plc s x))) (hN : TN G n s) (hT : TT G t s)
    (hG : G' = up (up (up G t x (s (136 + x) + 1)) n (10 + home s x / 4) (s (132 + home s x / 4) + 1)) n (6 + home s x / 4) (s 178)) : TA G' a b n t (stl s x) := by
  obtain ⟨y0, y1, q0, q1, hw⟩ := home_at hI hx
  have hR : ∀ j, ¬ (0 ≤ j ∧ j < 128) → rem s (home s x) (plc s x) j = s j := fun j hj => rem_hi hI ⟨y0, y1⟩ ⟨q0, q1⟩ hj
  have hI2 := rem_iv hI ⟨y0, y1⟩ ⟨q0, q1⟩
  have hlo : ∀ j, j < 128 → stl s x j = rem s (home s x) (plc s x) j := fun j hj => by
    unfold stl; rw [if_neg (by omega), if_neg (by omega), if_neg (by omega)]
  have hhi : ∀ j, 128 ≤ j → j ≠ 136 + x → j ≠ 132 + home s x / 4 → j ≠ 128 + home s x / 4 → stl s x j = s j := fun j h1 h2 h3 h4 => by
    unfold stl; rw [if_neg h2, if_neg h3, if_neg h4, hR j (by omega)]
  subst hG
  obtain ⟨⟨n0, n1, n2, n3, n4, n5⟩, n6⟩ := hN
  refine ⟨fun j h0 h1 => ?_, fun j h0 h1 => ?_, ⟨⟨?_, ?_, ?_, ?_, ?_, ?_⟩, fun d d0 d1 => ⟨?_, ?_⟩⟩, fun j h0 h1 => ?_, stl_iv hI hx0 hx⟩
  · rw [up_k hd.1, up_k hd.1, up_k hd.2.1, hW j h0 h1, whv_cg hI2 (fun j _ b => hlo j (by omega))]
  · rw [up_k hd.2.2.1, up_k hd.2.2.1, up_k hd.2.2.2.1, hL j h0 h1, hlo _ (by omega)]
  · rw [up_j (by omega), up_j (by omega), up_k hd.2.2.2.2, n0, hhi _ (by omega) (by omega) (by omega) (by omega)]
  · rw [up_j (by omega), up_j (by omega), up_k hd.2.2.2.2, n1, hhi _ (by omega) (by omega) (by omega) (by omega)]
  · rw [up_j (by omega), up_j (by omega), up_k hd.2.2.2.2, n2, hhi _ (by omega) (by omega) (by omega) (by omega)]
  · rw [up_j (by omega), up_j (by omega), up_k hd.2.2.2.2, n3, hhi _ (by omega) (by omega) (by omega) (by omega)]
  · rw [up_j (by omega), up_j (by omega), up_k hd.2.2.2.2, n4, hhi _ (by omega) (by omega) (by omega) (by omega)]
  · rw [up_j (by omega), up_j (by omega), up_k hd.2.2.2.2, n5, hhi _ (by omega) (by omega) (by omega) (by omega)]
  · by_cases e : d = home s x / 4
    · rw [e, up_eq]
      unfold stl
      rw [if_neg (by omega), if_neg (by omega), if_pos rfl]
    · rw [up_j (by omega), up_j (by omega), up_k hd.2.2.2.2, (n6 d d0 d1).1, hhi _ (by omega) (by omega) (by omega) (by omega)]
  · rw [up_j (by omega)]
    by_cases e : d = home s x / 4
    · rw [e, up_eq]
      unfold stl
      rw [if_neg (by omega), if_pos rfl]
    · rw [up_j (by omega), up_k hd.2.2.2.2, (n6 d d0 d1).2, hhi _ (by omega) (by omega) (by omega) (by omega)]
  · rw [up_k hd.2.2.2.2.symm, up_k hd.2.2.2.2.symm]
    by_cases e : j = x
    · rw [e, up_eq]
      unfold stl
      rw [if_pos rfl]
    · rw [up_j e, hT j h0 h1, hhi _ (by omega) (by omega) (by omega) (by omega)]
