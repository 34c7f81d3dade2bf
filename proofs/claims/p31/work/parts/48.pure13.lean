/-! the best word from above; rows copied; rows new -/
def qf (r : Rw) (y x : Int) : Prop := home r x = -1 ∧ rea r x y (r y) = 0
def vf (r : Rw) (y x : Int) : Int := dw (ins r x y (r y)) (y / 4)
def BW9 (r : Rw) (y i bw mo : Int) : Prop := (bw = -1 ∧ mo = -1 ∧ ∀ x, i < x → x < 40 → ¬ qf r y x) ∨ ((i < bw ∧ 0 ≤ bw ∧ bw < 40) ∧ qf r y bw ∧ mo = vf r y bw ∧ ∀ x, i < x → x < 40 → qf r y x → vf r y x < vf r y bw ∨ (vf r y x = vf r y bw ∧ bw ≤ x))
theorem BW_0 {r : Rw} {y : Int} : BW9 r y 39 (-1) (-1) := Or.inl ⟨rfl, rfl, fun x a b => by omega⟩
theorem vf_rng {r : Rw} (hI : Iv r) {y x : Int} (hy : 0 ≤ y ∧ y < 16) (hx : 0 ≤ x ∧ x < 40) (h : qf r y x) : 0 ≤ vf r y x ∧ vf r y x ≤ 128 := by
  have hs := rea_lt hI hy h.2
  have h2 := hI.sz hy.1 hy.2
  exact dw_range (ins_iv hI hx h.1 hy ⟨by omega, by omega⟩ hs) (by omega) (by omega)
theorem BW_mo {r : Rw} {y i bw mo : Int} (hI : Iv r) (hy : 0 ≤ y ∧ y < 16) (h : BW9 r y i bw mo) : -1 ≤ mo ∧ mo ≤ 128 := by
  rcases h with ⟨a, b, _⟩ | ⟨a, b, c, _⟩
  · omega
  · have := vf_rng hI hy a.2 b
    omega
theorem BW_no {r : Rw} {y i bw mo : Int} (h : BW9 r y i bw mo) (hn : ¬ qf r y i) : BW9 r y (i + -1) bw mo := by
  rcases h with ⟨a, b, c⟩ | ⟨a, b, c, e⟩
  · refine Or.inl ⟨a, b, fun x x0 x1 => ?_⟩
    by_cases g : x = i
    · rw [g]; exact hn
    · exact c x (by omega) x1
  · refine Or.inr ⟨⟨by omega, a.2⟩, b, c, fun x x0 x1 x2 => ?_⟩
    by_cases g : x = i
    · rw [g] at x2; exact absurd x2 hn
    · exact e x (by omega) x1 x2
theorem BW_in {r : Rw} {y i bw mo z : Int} (h : BW9 r y i bw mo) (hi : 0 ≤ i ∧ i < 40) (hq : qf r y i) (hz : z = vf r y i) (hm : mo ≤ z) : BW9 r y (i + -1) i z := by
  refine Or.inr ⟨⟨by omega, hi⟩, hq, hz, fun x x0 x1 x2 => ?_⟩
  by_cases g : x = i
  · rw [g]; right; omega
  · rcases h with ⟨a, b, c⟩ | ⟨a, b, c, e⟩
    · exact absurd x2 (c x (by omega) x1)
    · have := e x (by omega) x1 x2
      omega
theorem BW_out {r : Rw} {y i bw mo z : Int} (hI : Iv r) (hy : 0 ≤ y ∧ y < 16) (h : BW9 r y i bw mo) (hi : 0 ≤ i ∧ i < 40) (hq : qf r y i) (hz : z = vf r y i) (hm : z < mo) : BW9 r y (i + -1) bw mo := by
  have hr := vf_rng hI hy hi hq
  rcases h with ⟨a, b, c⟩ | ⟨a, b, c, e⟩
  · omega
  · refine Or.inr ⟨⟨by omega, a.2⟩, b, c, fun x x0 x1 x2 => ?_⟩
    by_cases g : x = i
    · rw [g]; left; omega
    · exact e x (by omega) x1 x2
theorem bfC (r : Rw) (y : Int) : ∀ n : Nat, (bfN r y n = -1 ∧ ∀ x : Int, 0 ≤ x → x < n → ¬ qf r y x) ∨ ((0 ≤ bfN r y n ∧ bfN r y n < n) ∧ qf r y (bfN r y n) ∧ ∀ x : Int, 0 ≤ x → x < n → qf r y x → bfV r y x < bfV r y (bfN r y n) ∨ (bfV r y x = bfV r y (bfN r y n) ∧ bfN r y n ≤ x))
  | 0 => Or.inl ⟨rfl, fun x a b => by omega⟩
  | n + 1 => by
    have ih := bfC r y n
    have e : bfN r y (n + 1) = if home r n = -1 ∧ rea r n y (r y) = 0 ∧ (bfN r y n = -1 ∨ bfV r y (bfN r y n) < bfV r y n) then (n : Int) else bfN r y n := rfl
    rw [e]
    by_cases q : home r n = -1 ∧ rea r n y (r y) = 0 ∧ (bfN r y n = -1 ∨ bfV r y (bfN r y n) < bfV r y n)
    · rw [if_pos q]
      refine Or.inr ⟨⟨by omega, by omega⟩, ⟨q.1, q.2.1⟩, fun x a b c => ?_⟩
      by_cases g : x = n
      · rw [g]; right; omega
      · rcases ih with ⟨u, v⟩ | ⟨u, v, t⟩
        · exact absurd c (v x a (by omega))
        · have := t x a (by omega) c
          omega
    · rw [if_neg q]
      rcases ih with ⟨u, v⟩ | ⟨u, v, t⟩
      · refine Or.inl ⟨u, fun x a b c => ?_⟩
        by_cases g : x = n
        · rw [g] at c; exact q ⟨c.1, c.2, Or.inl u⟩
        · exact v x a (by omega) c
      · refine Or.inr ⟨⟨u.1, by omega⟩, v, fun x a b c => ?_⟩
        by_cases g : x = n
        · rw [g] at c ⊢
          have g2 : ¬ bfV r y (bfN r y n) < bfV r y (n : Int) := fun g2 => q ⟨c.1, c.2, Or.inr g2⟩
          omega
        · exact t x a (by omega) c
theorem BW_bf {r : Rw} {y i bw mo : Int} (hI : Iv r) (hy : 0 ≤ y ∧ y < 16) (h : BW9 r y i bw mo) (hi : i = -1) : bw = bf r y := by
  subst hi
  have hv : ∀ x, 0 ≤ x → x < 40 → qf r y x → vf r y x = bfK r y + bfV r y x := fun x x0 x1 x2 => dw_ins hI ⟨x0, x1⟩ x2.1 hy (rea_lt hI hy x2.2)
  unfold bf
  rcases bfC r y 40 with ⟨u, v⟩ | ⟨u, v, t⟩
  · rcases h with ⟨a, b, c⟩ | ⟨a, b, c, e⟩
    · rw [a, u]
    · exact absurd b (v bw a.2.1 (by omega))
  · rcases h with ⟨a, b, c⟩ | ⟨a, b, c, e⟩
    · exact absurd v (c (bfN r y 40) (by omega) (by omega))
    · have h1 := e (bfN r y 40) (by omega) (by omega) v
      have h2 := t bw a.2.1 (by omega) b
      rw [hv _ u.1 (by omega) v, hv bw a.2.1 a.2.2 b] at h1
      omega
theorem TA.to {F G : FF} {a b n t a' b' n' t' : Nat} {r : Rw} (h : TA F a b n t r) (e1 : G a' = F a) (e2 : G b' = F b) (e3 : G n' = F n) (e4 : G t' = F t) : TA G a' b' n' t' r :=
  ⟨fun x x0 x1 => by rw [e1]; exact h.1 x x0 x1, fun x x0 x1 => by rw [e2]; exact h.2.1 x x0 x1, by unfold TN; rw [e3]; exact h.2.2.1, fun x x0 x1 => by rw [e4]; exact h.2.2.2.1 x x0 x1, h.2.2.2.2⟩
section QN
variable {p : Program} {l : Launch} {e : Env} {R : Room} {s : State} {m : MethodId} {args : Array Value} {below : List Frame} {meth : Method} {c : Code} {Qf : State → Prop} {w : WP} {k n nL pc : Nat} {lv lv' : List (Nat × Value)} {st : List Value} {F : FF} {cc : ByteArray} {own : String} {ret : Option FieldType}
theorem q_newaP (P : Nat) (C : Cx p s m args meth c cc own ret nL w) (N : Nat) (hp : nP w = P) (hk : kd P = 9) (hN : ln P = N) (hR : (decide (N ≤ 2000) && decide (k + 1 ≤ R.cells) && decide (n + N ≤ R.slots)) = true) (d : decode cc pc = .ok (.newarray .int, 2))
    (kk : ∀ w' : WP, Ex w w' → LwP w' P N → nP w' = P + 1 → Cx p s m args meth c cc own ret nL w' → Wq p l e R s m args below meth c Qf w' (k + 1) (n + N) nL (pc + 2) lv (.ref (adr w' P) :: st) (zer F P)) : Wq p l e R s m args below meth c Qf w k n nL pc lv (.int (iI (N : Int)) :: st) F := by
  subst hp
  exact q_newa C N hk hN hR d (fun w' hE hL C' => kk w' hE hL hE.2.2.2.1 C')
theorem q_lvE (h : lv' = lv) (kk : Wq p l e R s m args below meth c Qf w k n nL pc lv' st F) : Wq p l e R s m args below meth c Qf w k n nL pc lv st F := h ▸ kk
end QN
