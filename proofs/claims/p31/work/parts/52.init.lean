/-! the start of both systems -/
def rZ : Rw := fun j => f0 3 182 j
theorem rZ_eq (j : Int) : rZ j = f0 3 182 j := rfl
theorem rZ_0 {j : Int} (h : j ≠ 177) (h2 : j ≠ 178) : rZ j = 0 := by
  rw [rZ_eq]
  unfold f0
  by_cases g : 0 ≤ j ∧ j < ((182 : Nat) : Int)
  · rw [if_pos g, if_neg (by decide), if_neg (by decide), if_pos rfl, if_neg h, if_neg h2]
  · rw [if_neg g]
theorem rZ_home (x : Int) : home rZ x = -1 := home_of_none (fun l a b => by rw [rZ_0 (by omega) (by omega)]; decide) (fun l p a b c d => by rw [rZ_0 (by omega) (by omega)] at d; omega)
theorem rZ_iv : Iv rZ := by
  have hz : ∀ l, 0 ≤ l → l < 16 → rZ l = 0 := fun l a b => rZ_0 (by omega) (by omega)
  have hb : ∀ l, 0 ≤ l → l < 16 → rZ (112 + l) = 0 := fun l a b => rZ_0 (by omega) (by omega)
  refine ⟨fun l a b => by rw [hz l a b]; decide, fun l p a b c d => ?_, fun l p l' p' a b c d => ?_, fun l p a b c d => rZ_0 (by omega) (by omega), fun l a b => by rw [hb l a b]; decide, fun l a b c => ?_, fun l l' a b c d e f => ?_, fun d a b => by rw [rZ_0 (by omega) (by omega)]; decide, ?_, ?_, fun j hj => rZ_0 (by omega) (by omega)⟩
  · rw [hz l a b] at d; omega
  · rw [hz l a b] at d; omega
  · rw [hb l a b] at c; omega
  · rw [hb l a b] at f; omega
  · refine ⟨by rw [rZ_0 (by decide) (by decide)]; decide, by rw [rZ_0 (by decide) (by decide)]; decide, ?_, ?_, ?_, ?_⟩ <;> decide
  · have h1 : cnt rZ = sm (fun _ => 1) 40 := sm_congr (fun i _ _ => if_pos (rZ_home i))
    have h2 : sm (fun l => rZ l) 16 = sm (fun _ => 0) 16 := sm_congr (fun i a b => hz i a b)
    rw [h1]
    unfold bg
    rw [h2]; rfl
def AZ : AS := (rZ, 0, (fun _ => rZ), (fun _ => 0), (fun _ => rZ), 0, (fun _ => 0))
theorem FZ_ro {k : Nat} (h : ro k = 0) (j : Int) : FZ k j = 0 := by
  show f0 (ro k) (ln k) j = 0
  rw [h, f0_0]
theorem FZ_m1 {k : Nat} {j : Int} (h : ro k = 1) (h0 : 0 ≤ j) (h1 : j < (ln k : Int)) : FZ k j = -1 := by
  show f0 (ro k) (ln k) j = -1
  rw [h]
  unfold f0
  rw [if_pos ⟨h0, h1⟩, if_pos rfl]
theorem BI_Z : BI FZ 1 rZ := by
  have hz : ∀ l, 0 ≤ l → l < 16 → rZ l = 0 := fun l a b => rZ_0 (by omega) (by omega)
  have n2 : ((ln 2 : Nat) : Int) = 40 := rfl
  have n3 : ((ln 3 : Nat) : Int) = 96 := rfl
  have n5 : ((ln 5 : Nat) : Int) = 16 := rfl
  have n6 : ((ln 6 : Nat) : Int) = 16 := rfl
  refine ⟨fun x a b => ?_, fun l p a b c d => ?_, fun l a b => ?_, fun l a b => ?_, fun l a b => ?_, fun x a b => ?_, fun d a b => ?_, fun d a b => ?_, fun k a b => ?_, ?_, ?_, ?_, ?_, rZ_iv⟩
  · rw [rZ_home]; exact FZ_m1 rfl a (by show x < ((ln 2 : Nat) : Int); omega)
  · rw [if_neg (by rw [hz l a b]; omega)]; exact FZ_m1 rfl (by omega) (by show 6 * l + p < ((ln 3 : Nat) : Int); omega)
  · rw [hz l a b]; exact FZ_ro rfl l
  · rw [rZ_0 (by omega) (by omega)]; exact FZ_m1 rfl a (by show l < ((ln 5 : Nat) : Int); omega)
  · have e : bor rZ l = -1 := fs_no (by decide) (fun i a b => decide_eq_false (by rw [rZ_0 (by omega) (by omega)]; omega))
    rw [e]; exact FZ_m1 rfl a (by show l < ((ln 6 : Nat) : Int); omega)
  · rw [rZ_0 (by omega) (by omega)]; exact FZ_ro rfl x
  · rw [rZ_0 (by omega) (by omega)]; exact FZ_ro rfl d
  · rw [rZ_0 (by omega) (by omega)]; exact FZ_ro rfl d
  · rcases (show k = 0 ∨ k = 1 ∨ k = 2 by omega) with e | e | e <;> subst e <;> decide
  · rw [rZ_0 (by decide) (by decide)]; exact FZ_ro rfl 9
  · rw [rZ_0 (by decide) (by decide), rZ_0 (by decide) (by decide), rZ_0 (by decide) (by decide), rZ_0 (by decide) (by decide)]; exact FZ_ro rfl 10
  · rw [rZ_0 (by decide) (by decide)]; exact FZ_ro rfl 11
  · rw [rZ_0 (by decide) (by decide)]; exact FZ_ro rfl 12
theorem CI_Z : CI FZ AZ := by
  refine ⟨BI_Z, ⟨FZ_ro rfl 2, ⟨by decide, by decide⟩, by rw [FZ_ro rfl 1]; decide, fun k a c => ?_⟩, fun k a c => ⟨FZ_ro rfl k, Or.inl rfl, fun e => ?_⟩, FZ_ro rfl 6, fun i a c => ?_, ?_⟩
  · have c2 : k < 0 := c
    omega
  · have e2 : (0 : Int) = 1 := e
    omega
  · have c2 : i < 0 := c
    omega
  · refine ⟨?_, fun k a c => ?_, fun k a c e => ?_, ⟨by decide, by decide⟩, fun i a c => ?_⟩
    · show 0 ≤ rZ 179 ∧ rZ 179 ≤ 9999
      rw [rZ_0 (by decide) (by decide)]; decide
    · have c2 : k < 0 := c
      omega
    · have e2 : (0 : Int) = 1 := e
      omega
    · have c2 : i < 0 := c
      omega
theorem FZ_out : ∀ (k : Nat) (j : Int), ¬ (0 ≤ j ∧ j < (ln k : Int)) → FZ k j = 0 := by
  intro k j h
  show f0 (ro k) (ln k) j = 0
  unfold f0
  rw [if_neg h]
theorem rZ_s : rZ 176 = 0 ∧ rZ 177 = 20 ∧ rZ 178 = 1 := ⟨by decide, by decide, by decide⟩
/-- the law's rows as they are at first, and half filled -/
def F1Z : FF := up (up (zer (zer (zer (zer FZ 110) 111) 112) 113) 113 1 20) 113 2 1
def IT (G : FF) (k : Int) : Prop := (∀ j, 0 ≤ j → j < k → G 110 j = -1) ∧ (∀ j, 0 ≤ j → j < 16 → j < k → G 111 j = -1) ∧ ∀ q, q ≠ 110 → q ≠ 111 → G q = F1Z q
theorem IT_0 : IT F1Z 0 := ⟨fun j a b => by omega, fun j a b c => by omega, fun q a b => rfl⟩
theorem IT_s {G : FF} {k : Int} (h : IT G k) (h0 : 0 ≤ k) : IT (up (up G 110 k (-1)) 111 (k % 16) (-1)) (k + 1) := by
  refine ⟨fun j a b => ?_, fun j a b c => ?_, fun q a b => ?_⟩
  · rw [up_k (by decide)]
    by_cases e : j = k
    · rw [e, up_eq]
    · rw [up_j e]; exact h.1 j a (by omega)
  · by_cases e : j = k % 16
    · rw [e, up_eq]
    · rw [up_j e, up_k (by decide)]; exact h.2.1 j a b (by omega)
  · rw [up_k b, up_k a]; exact h.2.2 q a b
theorem IT_lo {G : FF} {k : Int} (h : IT G k) : ∀ q, q < 110 → G q = FZ q := fun q hq => by
  rw [h.2.2 q (by omega) (by omega)]
  unfold F1Z
  rw [up_k (by omega), up_k (by omega), zer_k (by omega), zer_k (by omega), zer_k (by omega), zer_k (by omega)]
theorem IT_TA {G : FF} {k : Int} (h : IT G k) (hk : 40 ≤ k) : TA G 110 111 113 112 rZ := by
  have e2 : ∀ j, G 112 j = 0 := fun j => by
    rw [h.2.2 112 (by decide) (by decide)]
    unfold F1Z
    rw [up_k (by decide), up_k (by decide), zer_k (by decide), zer_a]
  have e3 : ∀ j, j ≠ 1 → j ≠ 2 → G 113 j = 0 := fun j j1 j2 => by
    rw [h.2.2 113 (by decide) (by decide)]
    unfold F1Z
    rw [up_j j2, up_j j1, zer_a]
  have z1 : G 113 1 = 20 := by
    rw [h.2.2 113 (by decide) (by decide)]
    unfold F1Z
    rw [up_j (by decide), up_eq]
  have z2 : G 113 2 = 1 := by
    rw [h.2.2 113 (by decide) (by decide)]
    unfold F1Z
    rw [up_eq]
  refine ⟨fun x a b => ?_, fun l a b => ?_, ⟨⟨?_, ?_, ?_, ?_, ?_, ?_⟩, fun d a b => ⟨?_, ?_⟩⟩, fun x a b => ?_, rZ_iv⟩
  · rw [h.1 x a (by omega)]
    unfold whv
    rw [if_pos (rZ_home x)]
  · rw [h.2.1 l a b (by omega), rZ_0 (by omega) (by omega)]; rfl
  · rw [e3 _ (by decide) (by decide), rZ_s.1]
  · rw [z1, rZ_s.2.1]
  · rw [z2, rZ_s.2.2]
  · rw [e3 _ (by decide) (by decide), rZ_0 (by decide) (by decide)]
  · rw [e3 _ (by decide) (by decide), rZ_0 (by decide) (by decide)]
  · rw [e3 _ (by decide) (by decide), rZ_0 (by decide) (by decide)]
  · rw [e3 _ (by omega) (by omega), rZ_0 (by omega) (by omega)]
  · rw [e3 _ (by omega) (by omega), rZ_0 (by omega) (by omega)]
  · rw [e2, rZ_0 (by omega) (by omega)]
