/-! loops by a falling measure; small words of numbers -/
theorem wf1 {A : Type} (P : A → Prop) (I : A → Prop) (μ : A → Nat) (hs : ∀ a, I a → (∀ a', I a' → μ a' < μ a → P a') → P a) : ∀ a, I a → P a := by
  have h : ∀ n a, μ a ≤ n → I a → P a := by
    intro n
    induction n with
    | zero => exact fun a h0 hI => hs a hI (fun a' _ h2 => by omega)
    | succ n ih => exact fun a h0 hI => hs a hI (fun a' hI' h2 => ih a' (by omega) hI')
  exact fun a hI => h (μ a) a (Nat.le_refl _) hI
theorem wf2 {A B : Type} (P : A → B → Prop) (I : A → B → Prop) (μ : A → B → Nat) (hs : ∀ a b, I a b → (∀ a' b', I a' b' → μ a' b' < μ a b → P a' b') → P a b) : ∀ a b, I a b → P a b :=
  fun a b hI => wf1 (fun x : A × B => P x.1 x.2) (fun x => I x.1 x.2) (fun x => μ x.1 x.2) (fun x hI ih => hs x.1 x.2 hI (fun a' b' h1 h2 => ih (a', b') h1 h2)) (a, b) hI
theorem wf3 {A B C : Type} (P : A → B → C → Prop) (I : A → B → C → Prop) (μ : A → B → C → Nat) (hs : ∀ a b c, I a b c → (∀ a' b' c', I a' b' c' → μ a' b' c' < μ a b c → P a' b' c') → P a b c) : ∀ a b c, I a b c → P a b c :=
  fun a b c hI => wf1 (fun x : A × B × C => P x.1 x.2.1 x.2.2) (fun x => I x.1 x.2.1 x.2.2) (fun x => μ x.1 x.2.1 x.2.2) (fun x hI ih => hs x.1 x.2.1 x.2.2 hI (fun a' b' c' h1 h2 => ih (a', b', c') h1 h2)) (a, b, c) hI
theorem wf4 {A B C D : Type} (P : A → B → C → D → Prop) (I : A → B → C → D → Prop) (μ : A → B → C → D → Nat) (hs : ∀ a b c d, I a b c d → (∀ a' b' c' d', I a' b' c' d' → μ a' b' c' d' < μ a b c d → P a' b' c' d') → P a b c d) : ∀ a b c d, I a b c d → P a b c d :=
  fun a b c d hI => wf1 (fun x : A × B × C × D => P x.1 x.2.1 x.2.2.1 x.2.2.2) (fun x => I x.1 x.2.1 x.2.2.1 x.2.2.2) (fun x => μ x.1 x.2.1 x.2.2.1 x.2.2.2) (fun x hI ih => hs x.1 x.2.1 x.2.2.1 x.2.2.2 hI (fun a' b' c' d' h1 h2 => ih (a', b', c', d') h1 h2)) (a, b, c, d) hI
theorem wf5 {A B C D E : Type} (P : A → B → C → D → E → Prop) (I : A → B → C → D → E → Prop) (μ : A → B → C → D → E → Nat) (hs : ∀ a b c d e, I a b c d e → (∀ a' b' c' d' e', I a' b' c' d' e' → μ a' b' c' d' e' < μ a b c d e → P a' b' c' d' e') → P a b c d e) : ∀ a b c d e, I a b c d e → P a b c d e :=
  fun a b c d e hI => wf1 (fun x : A × B × C × D × E => P x.1 x.2.1 x.2.2.1 x.2.2.2.1 x.2.2.2.2) (fun x => I x.1 x.2.1 x.2.2.1 x.2.2.2.1 x.2.2.2.2) (fun x => μ x.1 x.2.1 x.2.2.1 x.2.2.2.1 x.2.2.2.2) (fun x hI ih => hs x.1 x.2.1 x.2.2.1 x.2.2.2.1 x.2.2.2.2 hI (fun a' b' c' d' e' h1 h2 => ih (a', b', c', d', e') h1 h2)) (a, b, c, d, e) hI
theorem Con.post {l : Launch} {y : MethodName} {cc : ByteArray} {maxL : Nat} {ret : Option FieldType} {h : Nat} {w : WP} {av : List Value} {F : FF} {p q : Int → FF → Prop} (hc : Con l y cc maxL ret h w av F (QI w p)) (hpq : ∀ z F', p z F' → q z F') : Con l y cc maxL ret h w av F (QI w q) := by
  intro p1 e ha hk hc1 s m args below hf happ hP hK
  obtain ⟨k, o, h1, h2, h3, ⟨⟨r, u, e1, ⟨z, rfl, hz⟩, hB⟩, hF⟩, hL⟩ := hc p1 e ha hk hc1 s m args below hf happ hP hK
  exact ⟨k, o, h1, h2, h3, ⟨⟨_, u, e1, ⟨z, rfl, hpq z u hz⟩, hB⟩, hF⟩, hL⟩
theorem Con.postV {l : Launch} {y : MethodName} {cc : ByteArray} {maxL : Nat} {ret : Option FieldType} {h : Nat} {w : WP} {av : List Value} {F : FF} {p q : FF → Prop} (hc : Con l y cc maxL ret h w av F (QV w p)) (hpq : ∀ F', p F' → q F') : Con l y cc maxL ret h w av F (QV w q) := by
  intro p1 e ha hk hc1 s m args below hf happ hP hK
  obtain ⟨k, o, h1, h2, h3, ⟨⟨u, e1, hz, hB⟩, hF⟩, hL⟩ := hc p1 e ha hk hc1 s m args below hf happ hP hK
  exact ⟨k, o, h1, h2, h3, ⟨⟨u, e1, hpq u hz, hB⟩, hF⟩, hL⟩
def kn (x : Int) : Int := x % 4
def en (x : Int) : Int := x / 4 % 5
def bt (x : Int) : Int := x % 3 + 1
theorem bt_pos {x : Int} (h : 0 ≤ x) : 1 ≤ bt x ∧ bt x ≤ 3 := by unfold bt; omega
theorem en_pos {x : Int} (h : 0 ≤ x) : 0 ≤ en x ∧ en x < 5 := by unfold en; omega
theorem kn_pos {x : Int} (h : 0 ≤ x) : 0 ≤ kn x ∧ kn x < 4 := by unfold kn; omega
abbrev cls (x y : Int) : Prop := kn x = kn y ∧ ¬ kn x = 2
def lc (x : Int) : Int := if x = -1 then -1 else 10 * (x / 4) + x % 4
def cpF (F : FF) (a b : Nat) : FF := fun k j => if k = b then F a j else F k j
