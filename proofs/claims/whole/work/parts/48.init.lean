/-! the start of both systems -/
def rZ : Rw := FZ 111
theorem rZ_eq (j : Int) : rZ j = f0 3 182 j := rfl
theorem rZ_0 {j : Int} (h : j ≠ 177) (h2 : j ≠ 178) : rZ j = 0 := by
  rw [rZ_eq]
  unfold f0
  by_cases g : 0 ≤ j ∧ j < ((182 : Nat) : Int)
  · rw [if_pos g, if_neg (by decide), if_neg (by decide), if_pos rfl, if_neg h, if_neg h2]
  · rw [if_neg g]
theorem rZ_home (x : Int) : home rZ x = -1 := home_of_none (fun l a b => by rw [rZ_0 (by omega) (by omega)]; decide) (fun l p a b c d => by rw [rZ_0 (by omega) (by omega)] at d; omega)
theorem rZ_iv : Iv rZ := by
  have hz : ∀ l, 0 ≤ l → l < 16 → rZ l = 0 := fun l a b => rZ_0 (by omega) (by omega)
  have hb : ∀ l, 0 ≤ l → l < 16 → rZ (112 + l) = 0 := fun l a b => rZ_0 (by omega) (by omega)
  refine ⟨fun l a b => by rw [hz l a b]; decide, fun l p a b c d => ?_, fun l p l' p' a b c d => ?_, fun l p a b c d => rZ_0 (by omega) (by omega), fun l a b => by rw [hb l a b]; decide, fun l a b c => ?_, fun l l' a b c d e f => ?_, fun d a b => by rw [rZ_0 (by omega) (by omega)]; decide, ?_, ?_, fun j hj => rZ_0 (by omega) (by omega)⟩
  · rw [hz l a b] at d; omega
  · rw [hz l a b] at d; omega
  · rw [hb l a b] at c; omega
  · rw [hb l a b] at f; omega
  · refine ⟨by rw [rZ_0 (by decide) (by decide)]; decide, by rw [rZ_0 (by decide) (by decide)]; decide, ?_, ?_, ?_, ?_⟩ <;> decide
  · have h1 : cnt rZ = sm (fun _ => 1) 40 := sm_congr (fun i _ _ => if_pos (rZ_home i))
    have h2 : sm (fun l => rZ l) 16 = sm (fun _ => 0) 16 := sm_congr (fun i a b => hz i a b)
    rw [h1]
    unfold bg
    rw [h2]; rfl
def AZ : AS := (rZ, 0, (fun _ => rZ), (fun _ => 0), (fun _ => rZ), 0, (fun _ => 0))
theorem FZ_ro {k : Nat} (h : ro k = 0) (j : Int) : FZ k j = 0 := by
  show f0 (ro k) (ln k) j = 0
  rw [h, f0_0]
theorem FZ_m1 {k : Nat} {j : Int} (h : ro k = 1) (h0 : 0 ≤ j) (h1 : j < (ln k : Int)) : FZ k j = -1 := by
  show f0 (ro k) (ln k) j = -1
  rw [h]
  unfold f0
  rw [if_pos ⟨h0, h1⟩, if_pos rfl]
theorem BI_Z : BI FZ 1 rZ := by
  have hz : ∀ l, 0 ≤ l → l < 16 → rZ l = 0 := fun l a b => rZ_0 (by omega) (by omega)
  have n2 : ((ln 2 : Nat) : Int) = 40 := rfl
  have n3 : ((ln 3 : Nat) : Int) = 96 := rfl
  have n5 : ((ln 5 : Nat) : Int) = 16 := rfl
  have n6 : ((ln 6 : Nat) : Int) = 16 := rfl
  refine ⟨fun x a b => ?_, fun l p a b c d => ?_, fun l a b => ?_, fun l a b => ?_, fun l a b => ?_, fun x a b => ?_, fun d a b => ?_, fun d a b => ?_, fun k a b => ?_, ?_, ?_, ?_, ?_, rZ_iv⟩
  · rw [rZ_home]; exact FZ_m1 rfl a (by show x < ((ln 2 : Nat) : Int); omega)
  · rw [if_neg (by rw [hz l a b]; omega)]; exact FZ_m1 rfl (by omega) (by show 6 * l + p < ((ln 3 : Nat) : Int); omega)
  · rw [hz l a b]; exact FZ_ro rfl l
  · rw [rZ_0 (by omega) (by omega)]; exact FZ_m1 rfl a (by show l < ((ln 5 : Nat) : Int); omega)
  · have e : bor rZ l = -1 := fs_no (by decide) (fun i a b => decide_eq_false (by rw [rZ_0 (by omega) (by omega)]; omega))
    rw [e]; exact FZ_m1 rfl a (by show l < ((ln 6 : Nat) : Int); omega)
  · rw [rZ_0 (by omega) (by omega)]; exact FZ_ro rfl x
  · rw [rZ_0 (by omega) (by omega)]; exact FZ_ro rfl d
  · rw [rZ_0 (by omega) (by omega)]; exact FZ_ro rfl d
  · rcases (show k = 0 ∨ k = 1 ∨ k = 2 by omega) with e | e | e <;> subst e <;> decide
  · rw [rZ_0 (by decide) (by decide)]; exact FZ_ro rfl 9
  · rw [rZ_0 (by decide) (by decide), rZ_0 (by decide) (by decide), rZ_0 (by decide) (by decide), rZ_0 (by decide) (by decide)]; exact FZ_ro rfl 10
  · rw [rZ_0 (by decide) (by decide)]; exact FZ_ro rfl 11
  · rw [rZ_0 (by decide) (by decide)]; exact FZ_ro rfl 12
theorem CI_Z : CI FZ AZ := by
  refine ⟨BI_Z, ⟨FZ_ro rfl 2, ⟨by decide, by decide⟩, by rw [FZ_ro rfl 1]; decide, fun k a c => ?_⟩, fun k a c => ⟨FZ_ro rfl k, Or.inl rfl, fun e => ?_⟩, FZ_ro rfl 6, fun i a c => ?_, ?_⟩
  · have c2 : k < 0 := c
    omega
  · have e2 : (0 : Int) = 1 := e
    omega
  · have c2 : i < 0 := c
    omega
  · refine ⟨?_, fun k a c => ?_, fun k a c e => ?_, ⟨by decide, by decide⟩, fun i a c => ?_⟩
    · show 0 ≤ rZ 179 ∧ rZ 179 ≤ 9999
      rw [rZ_0 (by decide) (by decide)]; decide
    · have c2 : k < 0 := c
      omega
    · have e2 : (0 : Int) = 1 := e
      omega
    · have c2 : i < 0 := c
      omega
theorem MI_Z : MI FZ AZ := by
  refine ⟨rfl, rZ_iv, ⟨FZ_ro rfl 2, ⟨by decide, by decide⟩, fun k a c => ?_⟩, fun k a c => ⟨FZ_ro rfl k, Or.inl rfl, fun e => ?_⟩, FZ_ro rfl 7, ⟨by decide, by decide⟩, fun i a c => ?_⟩
  · have c2 : k < 0 := c
    omega
  · have e2 : (0 : Int) = 1 := e
    omega
  · have c2 : i < 0 := c
    omega
theorem FZ_out : ∀ (k : Nat) (j : Int), ¬ (0 ≤ j ∧ j < (ln k : Int)) → FZ k j = 0 := by
  intro k j h
  show f0 (ro k) (ln k) j = 0
  unfold f0
  rw [if_neg h]
