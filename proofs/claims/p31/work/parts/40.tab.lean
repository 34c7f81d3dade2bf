/-! the law's table: what its rows say of the state -/
def whv (r : Rw) (x : Int) : Int := if home r x = -1 then -1 else 8 * home r x + plc r x
def TW (F : FF) (a : Nat) (r : Rw) : Prop := ∀ x, 0 ≤ x → x < 40 → F a x = whv r x
def TL (F : FF) (b : Nat) (r : Rw) : Prop := ∀ l, 0 ≤ l → l < 16 → F b l = r (112 + l) - 1
def TN (F : FF) (n : Nat) (r : Rw) : Prop := (F n 0 = r 176 ∧ F n 1 = r 177 ∧ F n 2 = r 178 ∧ F n 3 = r 179 ∧ F n 4 = r 180 ∧ F n 5 = r 181) ∧ ∀ d, 0 ≤ d → d < 4 → F n (6 + d) = r (128 + d) ∧ F n (10 + d) = r (132 + d)
def TT (F : FF) (t : Nat) (r : Rw) : Prop := ∀ x, 0 ≤ x → x < 40 → F t x = r (136 + x)
theorem TW.k {F G : FF} {a : Nat} {r : Rw} (h : TW F a r) (e : G a = F a) : TW G a r := fun x h0 h1 => by rw [e]; exact h x h0 h1
theorem TL.k {F G : FF} {a : Nat} {r : Rw} (h : TL F a r) (e : G a = F a) : TL G a r := fun x h0 h1 => by rw [e]; exact h x h0 h1
theorem TN.k {F G : FF} {a : Nat} {r : Rw} (h : TN F a r) (e : G a = F a) : TN G a r := by unfold TN at *; rw [e]; exact h
theorem TT.k {F G : FF} {a : Nat} {r : Rw} (h : TT F a r) (e : G a = F a) : TT G a r := fun x h0 h1 => by rw [e]; exact h x h0 h1
theorem smN_z {f : Int → Int} : ∀ n : Nat, (∀ i : Int, 0 ≤ i → i < n → f i = 0) → smN f n = 0
  | 0, _ => rfl
  | n + 1, h => by
    show smN f n + f n = 0
    rw [smN_z n (fun i a b => h i a (by omega)), h n (by omega) (by omega)]; rfl
theorem sm_z {f : Int → Int} {n : Int} (h : ∀ i : Int, 0 ≤ i → i < n → f i = 0) : sm f n = 0 := smN_z n.toNat (fun i a b => h i a (by omega))
theorem smN_add {f g : Int → Int} : ∀ n : Nat, smN (fun i => f i + g i) n = smN f n + smN g n
  | 0 => rfl
  | n + 1 => by
    show smN (fun i => f i + g i) n + (f n + g n) = smN f n + f n + (smN g n + g n)
    rw [smN_add n]; omega
theorem sm_add {f g : Int → Int} {n : Int} : sm (fun i => f i + g i) n = sm f n + sm g n := smN_add n.toNat
theorem smN_1 : ∀ n : Nat, smN (fun _ => 1) n = n
  | 0 => rfl
  | n + 1 => by
    show smN (fun _ => 1) n + 1 = _
    rw [smN_1 n]; omega
theorem sm_1 {n : Int} (h : 0 ≤ n) : sm (fun _ => 1) n = n := by
  unfold sm
  rw [smN_1]; omega
def oF (r : Rw) (l : Int) (f : Int → Int) : Int → Int := fun x => if home r x = l then f x else 0
def oM (r : Rw) (l m : Int) (f : Int → Int) : Int → Int := fun x => if home r x = l ∧ plc r x < m then f x else 0
def oK (r : Rw) (l c : Int) : Int → Bool := fun x => decide (home r x = l ∧ kn x = c)
def dF (r : Rw) (d : Int) : Int → Int := fun x => if home r x / 4 = d then 1 else 0
section TAB
variable {r : Rw}
theorem oF_1 {l x : Int} {f : Int → Int} (e : home r x = l) : oF r l f x = f x := if_pos e
theorem oF_0 {l x : Int} {f : Int → Int} (e : ¬ home r x = l) : oF r l f x = 0 := if_neg e
theorem dF_1 {d x : Int} (e : home r x / 4 = d) : dF r d x = 1 := if_pos e
theorem dF_0 {d x : Int} (e : ¬ home r x / 4 = d) : dF r d x = 0 := if_neg e
theorem whv_c (h : Iv r) (x : Int) : (home r x = -1 ∧ plc r x = -1 ∧ whv r x = -1) ∨ (0 ≤ home r x ∧ home r x < 16 ∧ 0 ≤ plc r x ∧ plc r x < 6 ∧ plc r x < r (home r x) ∧ whv r x = 8 * home r x + plc r x) := by
  unfold whv
  by_cases e : home r x = -1
  · left
    refine ⟨e, ?_, if_pos e⟩
    unfold plc
    rw [if_pos e]
  · right
    obtain ⟨a, b, c, d, _⟩ := home_at h e
    exact ⟨a, b, c, h.room a b c d, d, if_neg e⟩
theorem W0_i (h : Iv r) {l p i : Int} (hl : 0 ≤ l ∧ l < 16) (hi : 0 ≤ i) : W0 r l p = i ↔ home r i = l ∧ plc r i = p := by
  unfold W0
  constructor
  · intro e
    by_cases q : 0 ≤ p ∧ p < r l
    · rw [if_pos q] at e
      have e1 := home_is h hl.1 hl.2 q.1 q.2 e
      refine ⟨e1, ?_⟩
      unfold plc
      rw [e1, if_neg (by omega)]
      exact pl_is h hl.1 hl.2 q.1 q.2 e
    · rw [if_neg q] at e; omega
  · rintro ⟨e1, e2⟩
    obtain ⟨a, b, c, d, e⟩ := home_at h (x := i) (by omega)
    rw [e1, e2] at d e
    rw [if_pos ⟨by omega, d⟩]; exact e
theorem W0_in {l p : Int} (hp : 0 ≤ p ∧ p < r l) : W0 r l p = wa r l p := if_pos hp
theorem la_W0 (h : Iv r) {l : Int} (hl : 0 ≤ l ∧ l < 16) : W0 r l (r l - 1) = la r l := by
  have hs := h.sz hl.1 hl.2
  unfold W0 la
  by_cases e : r l = 0
  · rw [if_neg (by omega), if_pos e]
  · rw [if_pos (by omega), if_neg e]
theorem wa_pos (h : Iv r) {l p : Int} (hl : 0 ≤ l ∧ l < 16) (hp : 0 ≤ p ∧ p < r l) : home r (wa r l p) = l ∧ plc r (wa r l p) = p := (W0_i h hl (h.wd hl.1 hl.2 hp.1 hp.2).1).mp (W0_in hp)
theorem on_m (h : Iv r) {l : Int} (hl : 0 ≤ l ∧ l < 16) (f : Int → Int) : ∀ m : Nat, (m : Int) ≤ r l → sm (oM r l m f) 40 = sm (fun p => f (wa r l p)) m
  | 0, _ => by
    rw [sm_z (f := oM r l ((0 : Nat) : Int) f) (fun i a b => if_neg (fun q => by have := whv_c h i; omega))]; rfl
  | m + 1, hm => by
    have ih := on_m h hl f m (by omega)
    have hw := h.wd hl.1 hl.2 (p := m) (by omega) (by omega)
    obtain ⟨h1, h3⟩ := wa_pos h hl (p := m) ⟨by omega, by omega⟩
    have hu := sm_upd (n := 40) (k := wa r l m) (f := oM r l m f) (g := oM r l ((m + 1 : Nat) : Int) f) (fun i i0 i1 ne => by
      unfold oM
      by_cases q : home r i = l ∧ plc r i < (m : Int)
      · rw [if_pos q, if_pos ⟨q.1, by omega⟩]
      · rw [if_neg q, if_neg (fun q2 => ?_)]
        have e2 := (W0_i h hl i0 (p := m)).mpr ⟨q2.1, by omega⟩
        rw [W0_in ⟨by omega, by omega⟩] at e2
        exact ne e2.symm) hw.1 hw.2
    have e1 : oM r l ((m + 1 : Nat) : Int) f (wa r l m) = f (wa r l m) := if_pos ⟨h1, by omega⟩
    have e0 : oM r l (m : Int) f (wa r l m) = 0 := if_neg (by omega)
    rw [hu, ih, e1, e0, show ((m + 1 : Nat) : Int) = (m : Int) + 1 by omega, sm_s (by omega)]
    omega
theorem on_all (h : Iv r) {l : Int} (hl : 0 ≤ l ∧ l < 16) (f : Int → Int) : sm (oF r l f) 40 = sm (fun p => f (wa r l p)) (r l) := by
  have hs := h.sz hl.1 hl.2
  have := on_m h hl f (r l).toNat (by omega)
  rw [show (((r l).toNat : Nat) : Int) = r l by omega] at this
  rw [← this]
  refine sm_congr (fun i a b => ?_)
  unfold oF oM
  by_cases q : home r i = l
  · have hc := whv_c h i
    have hc2 : plc r i < r l := by
      rcases hc with hc | hc
      · omega
      · have := hc.2.2.2.2.1
        rw [q] at this; exact this
    rw [if_pos q, if_pos ⟨q, hc2⟩]
  · rw [if_neg q, if_neg (fun q2 => q q2.1)]
theorem on_1 (h : Iv r) {l : Int} (hl : 0 ≤ l ∧ l < 16) : sm (oF r l (fun _ => 1)) 40 = r l := by
  rw [on_all h hl, sm_1 (h.sz hl.1 hl.2).1]
theorem on_bt (h : Iv r) {l : Int} (hl : 0 ≤ l ∧ l < 16) : sm (oF r l bt) 40 = bo (wa r l) (r l) := on_all h hl bt
theorem dF_all (h : Iv r) {d : Int} (hd : 0 ≤ d ∧ d < 4) : sm (dF r d) 40 = dwo r d := by
  unfold dwo
  rw [sm_4, ← on_1 h (l := 4 * d + 0) ⟨by omega, by omega⟩, ← on_1 h (l := 4 * d + 1) ⟨by omega, by omega⟩, ← on_1 h (l := 4 * d + 2) ⟨by omega, by omega⟩, ← on_1 h (l := 4 * d + 3) ⟨by omega, by omega⟩, ← sm_add, ← sm_add, ← sm_add]
  refine sm_congr (fun i a b => ?_)
  unfold dF oF
  rcases (show home r i = 4 * d + 0 ∨ home r i = 4 * d + 1 ∨ home r i = 4 * d + 2 ∨ home r i = 4 * d + 3 ∨ ¬ home r i / 4 = d by omega) with e | e | e | e | e
  · rw [if_pos (by omega), if_pos e, if_neg (by omega), if_neg (by omega), if_neg (by omega)]; rfl
  · rw [if_pos (by omega), if_neg (by omega), if_pos e, if_neg (by omega), if_neg (by omega)]; rfl
  · rw [if_pos (by omega), if_neg (by omega), if_neg (by omega), if_pos e, if_neg (by omega)]; rfl
  · rw [if_pos (by omega), if_neg (by omega), if_neg (by omega), if_neg (by omega), if_pos e]; rfl
  · rw [if_neg e, if_neg (by omega), if_neg (by omega), if_neg (by omega), if_neg (by omega)]; rfl
theorem oK_all (h : Iv r) {l c : Int} (hl : 0 ≤ l ∧ l < 16) : an (oK r l c) 40 = true ↔ hk (wa r l) c (r l) = true := by
  unfold hk
  rw [an_iff, an_iff]
  constructor
  · rintro ⟨i, i0, i1, e⟩
    obtain ⟨e1, e2⟩ := of_decide_eq_true e
    obtain ⟨a, b, p0, p1, e3⟩ := home_at h (x := i) (by omega)
    rw [e1] at p1 e3
    exact ⟨plc r i, p0, p1, decide_eq_true (by rw [e3]; exact e2)⟩
  · rintro ⟨p, p0, p1, e⟩
    have hw := h.wd hl.1 hl.2 p0 p1
    exact ⟨wa r l p, hw.1, hw.2, decide_eq_true ⟨(wa_pos h hl ⟨p0, p1⟩).1, of_decide_eq_true e⟩⟩
theorem oK_s {l c i : Int} (h0 : 0 ≤ i) : an (oK r l c) (i + 1) = true ↔ an (oK r l c) i = true ∨ (home r i = l ∧ kn i = c) := by
  rw [an_s h0, Bool.or_eq_true]
  unfold oK
  rw [decide_eq_true_eq]
end TAB
/-! bits of the kinds -/
def pw (c : Int) : Int := if c = 0 then 1 else if c = 1 then 2 else if c = 2 then 4 else 8
def orv (K c : Int) : Int := if c = 0 then K / 2 * 2 + 1 else if c = 1 then K / 4 * 4 + 2 + K % 2 else if c = 2 then K / 8 * 8 + 4 + K % 4 else 8 + K % 8
theorem or_d : ∀ K ∈ List.range 16, ∀ c ∈ List.range 4, iI (K : Int) ||| iI (pw (c : Int)) = iI (orv (K : Int) (c : Int)) := by decide +kernel
theorem or_0d : ∀ K ∈ List.range 16, iI (K : Int) ||| iI 0 = iI (K : Int) := by decide +kernel
theorem and_3d : ∀ K ∈ List.range 16, iI (K : Int) &&& iI 3 = iI ((K : Int) % 4) := by decide +kernel
theorem shl_d : ∀ c ∈ List.range 4, iI 1 <<< (iI (c : Int) &&& 31) = iI (pw (c : Int)) := by decide +kernel
theorem or_e {K c : Int} (hK : 0 ≤ K ∧ K < 16) (hc : 0 ≤ c ∧ c < 4) : iI K ||| iI (pw c) = iI (orv K c) := by
  have := or_d K.toNat (List.mem_range.mpr (by omega)) c.toNat (List.mem_range.mpr (by omega))
  rw [Int.toNat_of_nonneg hK.1, Int.toNat_of_nonneg hc.1] at this; exact this
theorem or_0 {K : Int} (hK : 0 ≤ K ∧ K < 16) : iI K ||| iI 0 = iI K := by
  have := or_0d K.toNat (List.mem_range.mpr (by omega))
  rw [Int.toNat_of_nonneg hK.1] at this; exact this
theorem and_3 {K : Int} (hK : 0 ≤ K ∧ K < 16) : iI K &&& iI 3 = iI (K % 4) := by
  have := and_3d K.toNat (List.mem_range.mpr (by omega))
  rw [Int.toNat_of_nonneg hK.1] at this; exact this
theorem shl_1 {c : Int} (hc : 0 ≤ c ∧ c < 4) : iI 1 <<< (iI c &&& 31) = iI (pw c) := by
  have := shl_d c.toNat (List.mem_range.mpr (by omega))
  rw [Int.toNat_of_nonneg hc.1] at this; exact this
theorem orv_c (K c : Int) (hK : 0 ≤ K ∧ K < 16) : (0 ≤ orv K c ∧ orv K c < 16) ∧ (orv K c % 2 = 1 ↔ K % 2 = 1 ∨ c = 0) ∧ (orv K c / 2 % 2 = 1 ↔ K / 2 % 2 = 1 ∨ c = 1) := by
  unfold orv
  by_cases h0 : c = 0
  · rw [if_pos h0]; omega
  · rw [if_neg h0]
    by_cases h1 : c = 1
    · rw [if_pos h1]; omega
    · rw [if_neg h1]
      by_cases h2 : c = 2
      · rw [if_pos h2]; omega
      · rw [if_neg h2]; omega
def KI (r : Rw) (l K i : Int) : Prop := (0 ≤ K ∧ K < 16) ∧ (K % 2 = 1 ↔ an (oK r l 0) i = true) ∧ (K / 2 % 2 = 1 ↔ an (oK r l 1) i = true)
theorem KI_0 {r : Rw} {l : Int} : KI r l 0 0 := ⟨⟨by decide, by decide⟩, ⟨fun h => absurd h (by decide), fun h => by rw [an_0] at h; cases h⟩, ⟨fun h => absurd h (by decide), fun h => by rw [an_0] at h; cases h⟩⟩
theorem KI_on {r : Rw} {l K i : Int} (h : KI r l K i) (h0 : 0 ≤ i) (hh : home r i = l) : KI r l (orv K (i % 4)) (i + 1) := by
  obtain ⟨a, b, c⟩ := h
  obtain ⟨d, e, f⟩ := orv_c K (i % 4) a
  refine ⟨d, ?_, ?_⟩
  · rw [e, oK_s h0, b]
    constructor
    · rintro (q | q)
      · exact Or.inl q
      · exact Or.inr ⟨hh, q⟩
    · rintro (q | q)
      · exact Or.inl q
      · exact Or.inr q.2
  · rw [f, oK_s h0, c]
    constructor
    · rintro (q | q)
      · exact Or.inl q
      · exact Or.inr ⟨hh, q⟩
    · rintro (q | q)
      · exact Or.inl q
      · exact Or.inr q.2
theorem KI_off {r : Rw} {l K i : Int} (h : KI r l K i) (h0 : 0 ≤ i) (hh : ¬ home r i = l) : KI r l K (i + 1) := by
  obtain ⟨a, b, c⟩ := h
  refine ⟨a, ?_, ?_⟩
  · rw [oK_s h0, b]
    exact ⟨Or.inl, fun q => q.elim id (fun q => absurd q.1 hh)⟩
  · rw [oK_s h0, c]
    exact ⟨Or.inl, fun q => q.elim id (fun q => absurd q.1 hh)⟩
theorem KI_lw {r : Rw} {l K B E5 E3 : Int} (h : KI r l K 40) (hI : Iv r) (hl : 0 ≤ l ∧ l < 16) (hB : B = bo (wa r l) (r l)) (h5 : (K % 4 = 3 ∧ E5 = 5) ∨ (¬ K % 4 = 3 ∧ E5 = 0)) (h3 : B = 8 ∧ E3 = 3 ∨ ¬ B = 8 ∧ E3 = 0) : B + E5 + E3 = lw r l := by
  obtain ⟨a, b, c⟩ := h
  rw [oK_all hI hl] at b c
  refine LW_of (T := K % 2) (D := K / 2 % 2) hB ?_ ?_ ?_ h3
  · by_cases q : K % 2 = 1
    · left; exact ⟨q, b.mp q⟩
    · right; exact ⟨by omega, by cases e : hk (wa r l) 0 (r l) with
        | false => rfl
        | true => exact absurd (b.mpr e) q⟩
  · by_cases q : K / 2 % 2 = 1
    · left; exact ⟨q, c.mp q⟩
    · right; exact ⟨by omega, by cases e : hk (wa r l) 1 (r l) with
        | false => rfl
        | true => exact absurd (c.mpr e) q⟩
  · rcases h5 with ⟨q, e⟩ | ⟨q, e⟩
    · left; exact ⟨by omega, by omega, e⟩
    · right; exact ⟨by omega, e⟩
/-! doors: worths and pairs -/
theorem prs_two {r : Rw} {d : Int} (hd : 0 ≤ d ∧ d < 4) : sm (fun i => rh r (4 * d + i)) 4 = 2 * prs r d := by
  have h : ∀ i, 0 ≤ i → i < 4 → rh r (4 * d + i) = (if i = 0 then 0 else eqv (le r (4 * d + i)) (le r (4 * d + 0))) + (if i = 1 then 0 else eqv (le r (4 * d + i)) (le r (4 * d + 1))) + (if i = 2 then 0 else eqv (le r (4 * d + i)) (le r (4 * d + 2))) + (if i = 3 then 0 else eqv (le r (4 * d + i)) (le r (4 * d + 3))) := by
    intro i h0 h1
    show rhE r _ _ = _
    rw [rhE_eq, sm_4]
    unfold rhT
    rw [show 4 * ((4 * d + i) / 4) = 4 * d by omega]
    have e : ∀ j : Int, (if 4 * d + j ≠ 4 * d + i then eqv (le r (4 * d + i)) (le r (4 * d + j)) else 0) = if i = j then 0 else eqv (le r (4 * d + i)) (le r (4 * d + j)) := by
      intro j
      by_cases q : i = j
      · rw [if_pos q, if_neg (by omega)]
      · rw [if_neg q, if_pos (by omega)]
    rw [e, e, e, e]
  rw [sm_4, h 0 (by omega) (by omega), h 1 (by omega) (by omega), h 2 (by omega) (by omega), h 3 (by omega) (by omega)]
  unfold prs
  rw [eqv_comm (le r (4 * d + 0)) (le r (4 * d + 1)), eqv_comm (le r (4 * d + 0)) (le r (4 * d + 2)), eqv_comm (le r (4 * d + 0)) (le r (4 * d + 3)), eqv_comm (le r (4 * d + 1)) (le r (4 * d + 2)), eqv_comm (le r (4 * d + 1)) (le r (4 * d + 3)), eqv_comm (le r (4 * d + 2)) (le r (4 * d + 3)), Int.add_zero]
  simp only [show ¬ (0 : Int) = 1 by decide, show ¬ (0 : Int) = 2 by decide, show ¬ (0 : Int) = 3 by decide, show ¬ (1 : Int) = 0 by decide, show ¬ (1 : Int) = 2 by decide, show ¬ (1 : Int) = 3 by decide, show ¬ (2 : Int) = 0 by decide, show ¬ (2 : Int) = 1 by decide, show ¬ (2 : Int) = 3 by decide, show ¬ (3 : Int) = 0 by decide, show ¬ (3 : Int) = 1 by decide, show ¬ (3 : Int) = 2 by decide, if_true, if_false]
  omega
def dT (r : Rw) (d : Int) : Int → Int := fun i => lw r (4 * d + i) + 2 * rh r (4 * d + i)
theorem dT_all {r : Rw} {d : Int} (hd : 0 ≤ d ∧ d < 4) : sm (dT r d) 4 = dw r d := by
  have h := prs_two (r := r) hd
  rw [sm_4] at h
  unfold dw
  rw [sm_4, sm_4]
  unfold dT
  omega
def rT (r : Rw) (d : Int) : Int → Int := fun i => rh r (4 * d + i)
theorem rT_all {r : Rw} {d : Int} (hd : 0 ≤ d ∧ d < 4) : sm (rT r d) 4 = 2 * prs r d := prs_two hd
