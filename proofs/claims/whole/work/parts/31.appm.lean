/-- an answer true or false of a writer, with K of the state behind it -/
def isW (o : Option (Int32 × xSt)) (P : Prop) (K : xSt → Prop) : Prop := ∃ τ', K τ' ∧ ((P ∧ o = some (1, τ')) ∨ (¬ P ∧ o = some (0, τ')))
theorem isW_1 {P : Prop} {K : xSt → Prop} {τ : xSt} (hk : K τ) (h : P) : isW (some ((1 : Int32), τ)) P K := ⟨τ, hk, Or.inl ⟨h, rfl⟩⟩
theorem isW_0 {P : Prop} {K : xSt → Prop} {τ : xSt} (hk : K τ) (h : ¬ P) : isW (some ((0 : Int32), τ)) P K := ⟨τ, hk, Or.inr ⟨h, rfl⟩⟩
theorem isW_ite {c : Prop} {dc : Decidable c} {A B : Option (Int32 × xSt)} {P : Prop} {K : xSt → Prop} (h1 : c → isW A P K) (h2 : ¬ c → isW B P K) : isW (@ite _ c dc A B) P K := by
  by_cases h : c
  · rw [if_pos h]; exact h1 h
  · rw [if_neg h]; exact h2 h
theorem isW_bind {o : Option Int32} {Q P : Prop} {K : xSt → Prop} {f : Int32 → Option (Int32 × xSt)} (ho : isB o Q) (h1 : Q → isW (f 1) P K) (h0 : ¬ Q → isW (f 0) P K) : isW (o.bind f) P K := by
  rcases ho with ⟨q, e⟩ | ⟨q, e⟩
  · rw [e]; exact h1 q
  · rw [e]; exact h0 q
theorem isW_b2 {o : Option (Int32 × xSt)} {Q P : Prop} {K K1 : xSt → Prop} {f : Int32 → xSt → Option (Int32 × xSt)} (ho : isW o Q K1) (h1 : ∀ τ, K1 τ → Q → isW (f 1 τ) P K) (h0 : ∀ τ, K1 τ → ¬ Q → isW (f 0 τ) P K) : isW (gx_b2 o f) P K := by
  obtain ⟨τ, hk, ⟨q, e⟩ | ⟨q, e⟩⟩ := ho
  · rw [e]; exact h1 τ hk q
  · rw [e]; exact h0 τ hk q
theorem isW_iff {o : Option (Int32 × xSt)} {P Q : Prop} {K : xSt → Prop} (h : isW o P K) (e : P ↔ Q) : isW o Q K := by
  obtain ⟨τ, hk, ⟨q, e1⟩ | ⟨q, e1⟩⟩ := h
  · exact ⟨τ, hk, Or.inl ⟨e.mp q, e1⟩⟩
  · exact ⟨τ, hk, Or.inr ⟨fun z => q (e.mpr z), e1⟩⟩
theorem isW_K {o : Option (Int32 × xSt)} {P : Prop} {K K1 : xSt → Prop} (h : isW o P K1) (hk : ∀ τ, K1 τ → K τ) : isW o P K := by
  obtain ⟨τ, h1, h2⟩ := h
  exact ⟨τ, hk τ h1, h2⟩
theorem isW_gd {o : Option Int32} {P : Prop} {K : xSt → Prop} {τ : xSt} (hk : K τ) (h : isB o P) : isW (o.bind fun v => if v &&& 1 = v then some (v, τ) else none) P K := by
  rcases h with ⟨p, e⟩ | ⟨p, e⟩ <;> rw [e]
  · exact ⟨τ, hk, Or.inl ⟨p, rfl⟩⟩
  · exact ⟨τ, hk, Or.inr ⟨p, rfl⟩⟩
theorem b2S {α : Type} {v : Int32} {u : xSt} {f : Int32 → xSt → Option α} : gx_b2 (some (v, u)) f = f v u := rfl
def CM (τ : xSt) (T n a : Nat) (d : MD) (fc : Nat → Prop) (R : Nat → Nat → Prop) (e : AD) : Prop := WD T n d ∧ MM τ n d ∧ TM τ T fc R ∧ AM τ a e ∧ WA T a e
def KM (τ0 : xSt) (d : MD) (R : Nat → Nat → Prop) (T n : Nat) (fc : Nat → Prop) (τ : xSt) : Prop := KC τ0 τ ∧ FM τ d R T n fc
theorem AM_of {σ σ' : xSt} {a : Nat} {e : AD} (h2 : σ'.1 0 13 = σ.1 0 13) (hc : ∀ c, 12 ≤ c → c ≤ 16 → σ'.1 c = σ.1 c) (h : AM σ a e) : AM σ' a e := by
  unfold AM at *
  rw [h2, hc 12 (by decide) (by decide), hc 13 (by decide) (by decide), hc 14 (by decide) (by decide), hc 15 (by decide) (by decide), hc 16 (by decide) (by decide)]
  exact h
section APPM
variable {τ : xSt} {T n a : Nat} {d : MD} {fc : Nat → Prop} {R : Nat → Nat → Prop} {e : AD}
theorem KC_AM {τ' : xSt} (h : KC τ τ') (hA : AM τ a e) : AM τ' a e := AM_of (by rw [h.1 0 (by decide)]) (fun c h1 h2 => h.1 c (by omega)) hA
theorem KM_CM {τ' : xSt} (h : KM τ d R T n fc τ') (C : CM τ T n a d fc R e) : CM τ' T n a d fc R e := ⟨C.1, KC_MM h.1 C.2.1, KC_TM h.1 C.2.2.1, KC_AM h.1 C.2.2.2.1, C.2.2.2.2⟩
theorem KM_rf (hF : FM τ d R T n fc) : KM τ d R T n fc τ := ⟨KC_rf τ, hF⟩
theorem KM_tr {τ1 τ2 : xSt} (h1 : KM τ d R T n fc τ1) (h2 : KM τ1 d R T n fc τ2) : KM τ d R T n fc τ2 := ⟨KC_tr h1.1 h2.1, h2.2⟩
theorem m_typeAt (hM : MM τ n d) (hW : WD T n d) {m i : Nat} (hm : m < n) (hi : i < 10) {sp : Prop} {s : Int32} (hs : s = 1 ∧ sp ∨ s = 0 ∧ ¬ sp) (h1 : sp → VA d m) (h2 : ¬ (sp ∧ cn d m ≤ i + 1) → i < cn d m) : isV (fCM_typeAt τ (nI m) (nI i) s) (FA d m i sp) := by
  have := hM.2.1
  have hc := (hW m hm).2.2.2.1
  have q := hM.2.2 m hm
  unfold fCM_typeAt FA
  rw [ifin (by omega) (by omega), clN (by omega), nmE, q.2.2.2.2.1]
  rcases hs with ⟨rfl, hsp⟩ | ⟨rfl, hsp⟩
  · rw [if_neg (show ¬ (1 : Int32) = 0 by decide)]
    obtain ⟨g1, g2⟩ := (hW m hm).2.2.2.2.2.2 (h1 hsp)
    rw [predN _ g1]
    by_cases hl : cn d m ≤ i + 1
    · rw [if_neg (by rw [ltN (by omega) (by omega)]; omega), ix4', ifin (by omega) (by omega), clN (by omega), if_pos (show sp ∧ cn d m ≤ i + 1 from ⟨hsp, hl⟩)]
      have hv := q.2.2.2.2.2 (cn d m - 1) (by omega)
      exact ⟨_, rfl, by rw [sb64 (by rw [hv]; omega), hv]⟩
    · rw [if_pos (by rw [ltN (by omega) (by omega)]; omega), if_neg (fun q => hl q.2)]
      unfold fCM_typeAt_b37
      rw [ix4', ifin (by omega) (by omega), clN (by omega)]
      exact ⟨_, rfl, q.2.2.2.2.2 i (by omega)⟩
  · have hi2 := h2 (fun q => hsp q.1)
    rw [if_pos rfl, if_neg (fun q => hsp q.1)]
    unfold fCM_typeAt_b37
    rw [ix4', ifin (by omega) (by omega), clN (by omega)]
    exact ⟨_, rfl, q.2.2.2.2.2 i hi2⟩
theorem m_hasShape (C : CM τ T n a d fc R e) (hF : FM τ d R T n fc) (x : Int32) {i : Nat} (hi : i < a) (hl : la e i ≠ 0) : isW (fCM_hasShape τ x (nI i)) (SH d R T n fc e x.toInt i) (KM τ d R T n fc) := by
  obtain ⟨hW, hM, hT, hA, hWA⟩ := id C
  have := hM.2.1
  have := hA.2.1
  have := ((hWA i hi).2.2 hl).2
  have z1 : ¬ (1 : Int32) = 0 := by decide
  unfold fCM_hasShape SH
  obtain ⟨w, τ1, hw, hw2, hk1, hF1⟩ := m_functionOf hW hM hT hF x
  have K1 : KM τ d R T n fc τ1 := ⟨hk1, hF1⟩
  obtain ⟨-, hM1, -, hA1, -⟩ := KM_CM K1 C
  rw [hw, b2S]
  have hr := FN_range d R T n fc x.toInt
  by_cases hf : FN d R T n fc x.toInt = -1
  · rw [if_pos (by rw [i32lt, tI_0, hw2]; omega)]
    exact isW_0 K1 (fun h => h.1 hf)
  · rw [if_neg (by rw [i32lt, tI_0, hw2]; omega)]
    obtain ⟨e1, e2⟩ := FN_get hw2 (by omega) hf
    rw [e1]
    generalize (FN d R T n fc x.toInt).toNat = f at e2
    have := (hW f e2).2.2.2.1
    have qa := ((hA1.2.2 i hi).2.2 hl)
    have qm := hM1.2.2 f e2
    rw [ifin (by omega) (by omega), ifin (by omega) (by omega), clN (by omega), clN (by omega), qm.2.2.2.2.1, qa.2.1]
    refine isW_ite (fun c => ?_) (fun c => isW_0 K1 (fun h => c (by rw [h.2.1])))
    rw [eqN (by omega) (by omega)] at c
    rw [ifin2 (by omega) (by omega)]
    have b40 : ∀ (s : Int32) (P : Prop), (s = 1 ∧ P ∨ s = 0 ∧ ¬ P) → isW (fCM_hasShape_b40 τ1 (nI i) s) (P ↔ va e i = -1) (KM τ d R T n fc) := by
      intro s P hs
      unfold fCM_hasShape_b40 fCM_hasShape_b55
      rw [ifin (by omega) (by omega), clN (by omega)]
      refine isW_ite (fun c1 => ?_) (fun c1 => ?_)
      · have c1 : va e i = -1 := by rw [← qa.1, c1]; exact tI_m1
        rcases hs with ⟨rfl, p⟩ | ⟨rfl, p⟩
        · exact isW_1 K1 ⟨fun _ => c1, fun _ => p⟩
        · exact isW_0 K1 (fun h => p (h.mpr c1))
      · have c1 : ¬ va e i = -1 := fun z => c1 (by rw [i32eq, tI_m1, qa.1]; exact z)
        rcases hs with ⟨rfl, p⟩ | ⟨rfl, p⟩
        · exact isW_0 K1 (fun h => c1 (h.mp p))
        · exact isW_1 K1 ⟨fun z => absurd z p, fun z => absurd z c1⟩
    refine isW_ite (fun c1 => ?_) (fun c1 => ?_)
    · have c1 : rs d f = -1 := by rw [← qm.2.2.2.1, c1]; exact tI_m1
      exact isW_iff (b40 1 (rs d f = -1) (Or.inl ⟨rfl, c1⟩)) ⟨fun h => ⟨hf, c, h⟩, fun h => h.2.2⟩
    · have c1 : ¬ rs d f = -1 := fun z => c1 (by rw [i32eq, tI_m1, qm.2.2.2.1]; exact z)
      exact isW_iff (b40 0 (rs d f = -1) (Or.inr ⟨rfl, c1⟩)) ⟨fun h => ⟨hf, c, h⟩, fun h => h.2.2⟩
theorem m_passes (hT : TM τ T fc R) {x y : Int32} (hx : 0 ≤ x.toInt) (hy : 0 ≤ y.toInt) {ph : Nat} (hp : 1 ≤ ph ∧ ph ≤ 3) : isB (fCM_passes τ x y (nI ph)) (AC R T x.toInt y.toInt (1 < ph)) := by
  unfold fCM_passes AC
  have h1 := m_isIt hT.1 hT.2.1 x y hx hy
  have h2 := m_fitsIt hT.1 hT.2.1 x y hx hy
  rw [hT.2.2.2] at h1 h2
  refine isB_ite (fun c => ?_) (fun c => ?_)
  · have c : ph = 1 := by rw [i32eq, nIt (by omega), tI_1] at c; omega
    refine isB_iff (isB_gd2 h1) ⟨fun h => Or.inl ⟨by omega, h⟩, fun h => ?_⟩
    rcases h with q | q
    · exact q.2
    · omega
  · have c : ¬ ph = 1 := by rw [i32eq, nIt (by omega), tI_1] at c; omega
    refine isB_iff (isB_gd2 h2) ⟨fun h => Or.inr ⟨by omega, h⟩, fun h => ?_⟩
    rcases h with q | q
    · omega
    · exact q.2
theorem ix2' (m k : Nat) : (2 : Int32) * nI m + nI k = nI (2 * m + k) := by
  show nI 2 * nI m + nI k = _
  rw [pk_mul, nI_add]
theorem m_b111 (C : CM τ T n a d fc R e) (hF : FM τ d R T n fc) {f i ph : Nat} (hf : f < n) (hi : i < a) (hl : la e i ≠ 0) (hr : rs d f = -1 ↔ va e i = -1) (hp : 1 ≤ ph ∧ ph ≤ 3) {s : Int32} {P : Prop} (hs : s = 1 ∧ P ∨ s = 0 ∧ ¬ P) : isW (fCM_takes_b111 τ (nI i) (nI ph) (nI f) s) (P ∧ (la e i = 2 → va e i = -1 ∨ AC R T (va e i) (rs d f) (1 < ph))) (KM τ d R T n fc) := by
  obtain ⟨hW, hM, hT, hA, hWA⟩ := id C
  have := hM.2.1
  have := hA.2.1
  have z1 : ¬ (1 : Int32) = 0 := by decide
  have K0 : KM τ d R T n fc τ := KM_rf hF
  have wa := hWA i hi
  have qa := hA.2.2 i hi
  have ql := qa.2.2 hl
  unfold fCM_takes_b111
  rcases hs with ⟨rfl, p⟩ | ⟨rfl, p⟩
  · rw [if_neg z1, ifin (by omega) (by omega), ifin (by omega) (by omega), ifin (by omega) (by omega), ifin (by omega) (by omega), clN (by omega), clN (by omega), qa.1]
    refine isW_ite (fun c => ?_) (fun c => ?_)
    · have c : la e i = 1 := by rw [i32eq, nIt (by omega), tI_1] at c; omega
      exact isW_1 K0 ⟨p, fun q => by omega⟩
    · have c : la e i = 2 := by rw [i32eq, nIt (by omega), tI_1] at c; omega
      refine isW_ite (fun c1 => ?_) (fun c1 => ?_)
      · exact isW_1 K0 ⟨p, fun _ => Or.inl (by rw [← ql.1, c1]; exact tI_m1)⟩
      · have c1 : ¬ va e i = -1 := fun z => c1 (by rw [i32eq, tI_m1, ql.1]; exact z)
        have t1 : 0 ≤ va e i := by rcases (wa.2.2 hl).1 with g | g; exact absurd g c1; exact va_0 g
        have t2 : 0 ≤ rs d f := by rcases (hW f hf).2.2.2.2.1 with g | g; exact absurd (hr.mp g) c1; exact va_0 g
        have hpas := m_passes hT (x := τ.1 16 i) (y := τ.1 9 f) (by rw [ql.1]; exact t1) (by rw [(hM.2.2 f hf).2.2.2.1]; exact t2) hp
        rw [ql.1, (hM.2.2 f hf).2.2.2.1] at hpas
        refine isW_bind hpas (fun h => ?_) (fun h => ?_)
        · rw [if_neg z1]; exact isW_1 K0 ⟨p, fun _ => Or.inr h⟩
        · rw [if_pos rfl]; exact isW_0 K0 (fun q => by rcases q.2 c with g | g; exact c1 g; exact h g)
  · rw [if_pos rfl]; exact isW_0 K0 (fun h => p h.1)
theorem m_told_loop (C : CM τ T n a d fc R e) (hF : FM τ d R T n fc) {f i ph : Nat} (hf : f < n) (hi : i < a) (hl : la e i = 2) (hc : cn d f = wi e i) (hr : rs d f = -1 ↔ va e i = -1) (hp : 1 ≤ ph ∧ ph ≤ 3) : ∀ (r k g : Nat) (s : Int32) (P : Prop), k + r = wi e i → r < g → (s = 1 ∧ P ∨ s = 0 ∧ ¬ P) → isW (fCM_takes_b46 g τ (nI i) (nI ph) (nI f) s (nI k)) ((P ∧ ∀ j, k ≤ j → j < wi e i → pa d f j = ap e i j) ∧ (la e i = 2 → va e i = -1 ∨ AC R T (va e i) (rs d f) (1 < ph))) (KM τ d R T n fc) := by
  obtain ⟨hW, hM, hT, hA, hWA⟩ := id C
  have := hM.2.1
  have := hA.2.1
  have wf := hW f hf
  have wa := (hWA i hi).2.2 (by omega)
  have qa := hA.2.2 i hi
  have ql := qa.2.2 (by omega)
  intro r
  induction r with
  | zero =>
    intro k g s P hk hg hs
    obtain ⟨g, rfl⟩ : ∃ z, g = z + 1 := ⟨g - 1, by omega⟩
    rw [fCM_takes_b46, ifin (by omega) (by omega), clN (by omega), ql.2.1, if_pos (by rw [leN (by omega) (by omega)]; omega)]
    exact isW_iff (m_b111 C hF hf hi (by omega) hr hp hs) ⟨fun h => ⟨⟨h.1, fun j g1 g2 => by omega⟩, h.2⟩, fun h => ⟨h.1.1, h.2⟩⟩
  | succ r ih =>
    intro k g s P hk hg hs
    obtain ⟨g, rfl⟩ : ∃ z, g = z + 1 := ⟨g - 1, by omega⟩
    rw [fCM_takes_b46, ifin (by omega) (by omega), ifin (by omega) (by omega), clN (by omega), ql.2.1, if_neg (by rw [leN (by omega) (by omega)]; omega), qa.1, if_pos (by rw [i32eq, nIt (by omega), tI_2]; omega)]
    unfold fCM_takes_b102 fCM_takes_b103
    rw [sc1]
    rcases hs with ⟨rfl, p⟩ | ⟨rfl, p⟩
    · rw [if_neg (by decide), ix4', ix2', ifin (by omega) (by omega), ifin (by omega) (by omega), clN (by omega), clN (by omega)]
      have q1 := (hM.2.2 f hf).2.2.2.2.2 k (by omega)
      have q2 := ql.2.2 k (by omega)
      refine isW_ite (fun c => ?_) (fun c => ?_)
      · rw [i32eq, q1, q2] at c
        refine isW_iff (ih (k + 1) g 1 P (by omega) (by omega) (Or.inl ⟨rfl, p⟩)) ⟨fun h => ⟨⟨p, fun j g1 g2 => ?_⟩, h.2⟩, fun h => ⟨⟨p, fun j g1 g2 => h.1.2 j (by omega) g2⟩, h.2⟩⟩
        rcases Nat.lt_or_ge k j with q | q
        · exact h.1.2 j q g2
        · have : j = k := by omega
          subst this; exact c
      · refine isW_iff (ih (k + 1) g 0 False (by omega) (by omega) (Or.inr ⟨rfl, id⟩)) ⟨fun h => absurd h.1.1 id, fun h => absurd ?_ c⟩
        rw [i32eq, q1, q2]; exact h.1.2 k (Nat.le_refl k) (by omega)
    · rw [if_pos rfl]
      exact isW_iff (ih (k + 1) g 0 False (by omega) (by omega) (Or.inr ⟨rfl, id⟩)) ⟨fun h => absurd h.1.1 id, fun h => absurd h.1.1 p⟩
theorem m_takes (C : CM τ T n a d fc R e) (hF : FM τ d R T n fc) {x : Int32} (hx : tyI T x.toInt) {i ph : Nat} (hi : i < a) (hp : 1 ≤ ph ∧ ph ≤ 3) : isW (fCM_takes τ x (nI i) (nI ph)) (TK d R T n fc e x.toInt i (1 < ph)) (KM τ d R T n fc) := by
  obtain ⟨hW, hM, hT, hA, hWA⟩ := id C
  have := hM.2.1
  have := hA.2.1
  have z1 : ¬ (1 : Int32) = 0 := by decide
  have wa := hWA i hi
  have qa := hA.2.2 i hi
  unfold fCM_takes TK
  rw [ifin (by omega) (by omega), ifin (by omega) (by omega), clN (by omega), qa.1]
  refine isW_ite (fun c => ?_) (fun c => ?_)
  · have c : la e i = 0 := by rw [i32eq, nIt (by omega), tI_0] at c; omega
    have hpas := m_passes hT (x := τ.1 12 i) (y := x) (by rw [qa.2.1 c]; exact ty_0 (wa.2.1 c)) (ty_0 hx) hp
    rw [qa.2.1 c] at hpas
    exact isW_iff (isW_gd (KM_rf hF) hpas) ⟨fun h => Or.inl ⟨c, h⟩, fun h => by rcases h with q | q; exact q.2; exact absurd c q.1⟩
  · have c : ¬ la e i = 0 := by rw [i32eq, nIt (by omega), tI_0] at c; omega
    refine isW_b2 (m_hasShape C hF x hi c) (fun τ1 K1 h1 => ?_) (fun τ1 K1 h1 => ?_)
    · rw [if_neg z1]
      obtain ⟨w, τ2, hw, hw2, hk2, hF2⟩ := m_functionOf hW (KM_CM K1 C).2.1 (KM_CM K1 C).2.2.1 K1.2 x
      have K2 : KM τ d R T n fc τ2 := KM_tr K1 ⟨hk2, hF2⟩
      rw [hw, b2S]
      obtain ⟨e1, e2⟩ := FN_get hw2 (by omega) h1.1
      rw [e1]
      have hs2 := h1.2
      generalize hfe : (FN d R T n fc x.toInt).toNat = f at e2 hs2
      have C2 := KM_CM K2 C
      by_cases c2 : la e i = 2
      · refine isW_iff (isW_K (m_told_loop C2 hF2 e2 hi c2 hs2.1 hs2.2 hp (wi e i) 0 gF 1 True (by omega) (by have := (wa.2.2 c).2; unfold gF; omega) (Or.inl ⟨rfl, trivial⟩)) (fun τ3 h => KM_tr K2 h)) ⟨fun h => Or.inr ⟨c, h1, fun _ => ⟨fun k hk => h.1.2 k (Nat.zero_le k) hk, h.2 c2⟩⟩, fun h => ?_⟩
        rcases h with q | q
        · exact absurd q.1 c
        · exact ⟨⟨trivial, fun j _ hj => (q.2.2 c2).1 j hj⟩, fun _ => (q.2.2 c2).2⟩
      · have qa2 := C2.2.2.2.1.2.2 i hi
        obtain ⟨g, hg⟩ : ∃ z, gF = z + 1 := ⟨3999, rfl⟩
        rw [hg, fCM_takes_b46, ifin (by omega) (by omega), ifin (by omega) (by omega), clN (by omega), qa2.1]
        have b111 := isW_K (m_b111 C2 hF2 e2 hi c hs2.2 hp (s := 1) (P := True) (Or.inl ⟨rfl, trivial⟩)) (fun τ3 h => KM_tr K2 h)
        have fin : isW (fCM_takes_b111 τ2 (nI i) (nI ph) (nI f) 1) (la e i = 0 ∧ AC R T (va e i) x.toInt (1 < ph) ∨ la e i ≠ 0 ∧ SH d R T n fc e x.toInt i ∧ (la e i = 2 → TT d R T e f i (1 < ph))) (KM τ d R T n fc) := isW_iff b111 ⟨fun _ => Or.inr ⟨c, h1, fun q => absurd q c2⟩, fun _ => ⟨trivial, fun q => absurd q c2⟩⟩
        refine isW_ite (fun _ => fin) (fun _ => ?_)
        rw [if_neg (by rw [i32eq, nIt (by omega), tI_2]; omega)]
        exact fin
    · rw [if_pos rfl]
      exact isW_0 K1 (fun h => by rcases h with q | q; exact c q.1; exact h1 q.2.1)
theorem m_app_loop {m ph : Nat} (hp : 1 ≤ ph ∧ ph ≤ 3) {s : Int32} (hs : s = 1 ∧ ph = 3 ∨ s = 0 ∧ ¬ ph = 3) (hm : m < n) (h1 : ph = 3 → VA d m) (h2 : ¬ ph = 3 → cn d m = a) (h3 : cn d m ≤ a + 1) : ∀ (r k f : Nat) (τ : xSt), k + r = a → r < f → CM τ T n a d fc R e → FM τ d R T n fc → isW (fCM_doesApply_b46 f τ (nI m) (nI ph) s (nI k)) (∀ i, k ≤ i → i < a → TK d R T n fc e (FA d m i (ph = 3)) i (1 < ph)) (KM τ d R T n fc) := by
  have z1 : ¬ (1 : Int32) = 0 := by decide
  intro r
  induction r with
  | zero =>
    intro k f τ hk hf C hF
    obtain ⟨hW, hM, hT, hA, hWA⟩ := id C
    have := hA.2.1
    obtain ⟨f, rfl⟩ : ∃ z, f = z + 1 := ⟨f - 1, by omega⟩
    rw [fCM_doesApply_b46, hA.1, if_pos (by rw [leN (by omega) (by omega)]; omega)]
    exact isW_1 (KM_rf hF) (fun i g1 g2 => by omega)
  | succ r ih =>
    intro k f τ hk hf C hF
    obtain ⟨hW, hM, hT, hA, hWA⟩ := id C
    have := hA.2.1
    obtain ⟨f, rfl⟩ : ∃ z, f = z + 1 := ⟨f - 1, by omega⟩
    rw [fCM_doesApply_b46, hA.1, if_neg (by rw [leN (by omega) (by omega)]; omega), sc1]
    have hidx : ¬ (ph = 3 ∧ cn d m ≤ k + 1) → k < cn d m := by
      intro q
      by_cases g : ph = 3
      · have h9 : ¬ cn d m ≤ k + 1 := fun z => q ⟨g, z⟩
        omega
      · have := h2 g; omega
    obtain ⟨w, hw, hw2⟩ := m_typeAt hM hW hm (i := k) (by omega) hs h1 hidx
    rw [hw, Option.bind_some]
    have hty := FA_ty hT.2.1 hW hm h1 hidx
    have ht := m_takes C hF (x := w) (by rw [hw2]; exact hty) (i := k) (by omega) hp
    rw [hw2] at ht
    refine isW_b2 ht (fun τ1 K1 g1 => ?_) (fun τ1 K1 g1 => ?_)
    · rw [if_neg z1]
      refine isW_iff (isW_K (ih (k + 1) f τ1 (by omega) (by omega) (KM_CM K1 C) K1.2) (fun τ2 h => KM_tr K1 h)) ⟨fun h i g2 g3 => ?_, fun h i g2 g3 => h i (by omega) g3⟩
      rcases Nat.lt_or_ge k i with q | q
      · exact h i q g3
      · have : i = k := by omega
        subst this; exact g1
    · rw [if_pos rfl]
      exact isW_0 K1 (fun h => g1 (h k (Nat.le_refl k) (by omega)))
theorem m_applies (C : CM τ T n a d fc R e) (hF : FM τ d R T n fc) {m ph : Nat} (hm : m < n) (hp : 1 ≤ ph ∧ ph ≤ 3) (hme : cn d m = a ∨ (VA d m ∧ cn d m ≤ a + 1)) : isW (fCM_doesApply τ (nI m) (nI ph)) (AP d R T n a fc e m ph) (KM τ d R T n fc) := by
  obtain ⟨hW, hM, hT, hA, hWA⟩ := id C
  have := hM.2.1
  have := hA.2.1
  have := (hW m hm).2.2.2.1
  have z1 : ¬ (1 : Int32) = 0 := by decide
  have h3 : cn d m ≤ a + 1 := by rcases hme with g | g; omega; exact g.2
  unfold fCM_doesApply fCM_doesApply_b10 fCM_doesApply_b43 AP
  refine isW_ite (fun c => ?_) (fun c => ?_)
  · have c : ph = 3 := by rw [i32eq, nIt (by omega), tI_3] at c; omega
    rw [if_neg z1, if_pos c]
    refine isW_bind (m_has8 hM hW hm) (fun h1 => ?_) (fun h1 => ?_)
    · rw [if_neg z1]
      refine isW_iff (m_app_loop hp (Or.inl ⟨rfl, c⟩) hm (fun _ => h1) (fun q => absurd c q) h3 a 0 gF τ (by omega) (by unfold gF; omega) C hF) ⟨fun h => ⟨h1, fun i hi => h i (Nat.zero_le i) hi⟩, fun h i _ hi => h.2 i hi⟩
    · rw [if_pos rfl]; exact isW_0 (KM_rf hF) (fun h => h1 h.1)
  · have c : ¬ ph = 3 := by rw [i32eq, nIt (by omega), tI_3] at c; omega
    rw [if_pos rfl, ifin (by omega) (by omega), clN (by omega), (hM.2.2 m hm).2.2.2.2.1, hA.1, if_neg c]
    refine isW_ite (fun c1 => ?_) (fun c1 => ?_)
    · rw [eqN (by omega) (by omega)] at c1
      refine isW_iff (m_app_loop hp (Or.inr ⟨rfl, c⟩) hm (fun q => absurd q c) (fun _ => c1) h3 a 0 gF τ (by omega) (by unfold gF; omega) C hF) ⟨fun h => ⟨c1, fun i hi => h i (Nat.zero_le i) hi⟩, fun h i _ hi => h.2 i hi⟩
    · rw [eqN (by omega) (by omega)] at c1; exact isW_0 (KM_rf hF) (fun h => c1 h.1)
end APPM
