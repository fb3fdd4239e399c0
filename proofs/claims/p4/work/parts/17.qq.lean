variable {tt : QQ}
/-! what was fed, exactly -/
theorem Ty.re {G : GG} {S S' : Sp} {ad : Nat → Nat} {ws : va_W} (hn : S.2.2 = S'.2.2) (hc : ∀ i e, i < S.2.2 → ws[i]? = some (ad i, e) → ctOk G S ad i (S.2.1 (S.1 i)) e → ctOk G S' ad i (S'.2.1 (S'.1 i)) e) (h : Ty G S ad ws) : Ty G S' ad ws := ⟨h.1.trans hn, fun i hi => by
  obtain ⟨e, h1, h2⟩ := h.2 i (by rw [hn]; exact hi)
  exact ⟨e, h1, hc i e (by rw [hn]; exact hi) h1 h2⟩⟩
theorem ft_re {P P' : Nat → FT → Value → Prop} {f f' : List FT} {fs : List Value} {q : Nat} (hl : f'.length = f.length) (he : ∀ k, k ≠ q → f'[k]? = f[k]?) (hP : ∀ k t v, k ≠ q → P k t v → P' k t v) (hq : ∀ t t' v, f[q]? = some t → f'[q]? = some t' → fs[q]? = some v → P q t v → P' q t' v) (h : fs.length = f.length ∧ ∀ (k : Nat) (t : FT), f[k]? = some t → ∃ v : Value, fs[k]? = some v ∧ P k t v) : fs.length = f'.length ∧ ∀ (k : Nat) (t : FT), f'[k]? = some t → ∃ v : Value, fs[k]? = some v ∧ P' k t v := by
  refine ⟨by rw [hl]; exact h.1, fun k t hk => ?_⟩
  by_cases e : k = q
  · subst e
    have hlt : k < f.length := by rw [← hl]; exact (List.getElem?_eq_some_iff.mp hk).1
    obtain ⟨v, h1, h2⟩ := h.2 k _ (List.getElem?_eq_getElem hlt)
    exact ⟨v, h1, hq _ t v (List.getElem?_eq_getElem hlt) hk h1 h2⟩
  · rw [he k e] at hk
    obtain ⟨v, h1, h2⟩ := h.2 k t hk
    exact ⟨v, h1, hP k t v e h2⟩
theorem ctSC_ne (a b : QQ) : ∀ κ : Nat, κ ≠ 16 → ctSC a κ = ctSC b κ
  | 0, _ => rfl
  | 1, _ => rfl
  | 2, _ => rfl
  | 3, _ => rfl
  | 4, _ => rfl
  | 5, _ => rfl
  | 6, _ => rfl
  | 7, _ => rfl
  | 8, _ => rfl
  | 9, _ => rfl
  | 10, _ => rfl
  | 11, _ => rfl
  | 12, _ => rfl
  | 13, _ => rfl
  | 14, _ => rfl
  | 15, _ => rfl
  | 16, h => absurd rfl h
  | 17, _ => rfl
  | 18, _ => rfl
  | 19, _ => rfl
  | 20, _ => rfl
  | 21, _ => rfl
  | 22, _ => rfl
  | 23, _ => rfl
  | 24, _ => rfl
  | 25, _ => rfl
  | 26, _ => rfl
  | 27, _ => rfl
  | 28, _ => rfl
  | 29, _ => rfl
  | 30, _ => rfl
  | 31, _ => rfl
  | 32, _ => rfl
  | 33, _ => rfl
  | 34, _ => rfl
  | 35, _ => rfl
  | 36, _ => rfl
  | 37, _ => rfl
  | 38, _ => rfl
  | 39, _ => rfl
  | 40, _ => rfl
  | 41, _ => rfl
  | 42, _ => rfl
  | 43, _ => rfl
  | 44, _ => rfl
  | 45, _ => rfl
  | 46, _ => rfl
  | 47, _ => rfl
  | 48, _ => rfl
  | 49, _ => rfl
  | n + 50, _ => rfl
theorem SC_re {G : GG} {a b : QQ} {ad : Nat → Nat} {ws : va_W} (hb : ∀ x : Int32, fI ws 77 2 = x → a.1.1.1 ≤ x.toInt → x.toInt ≤ a.1.1.2 → b.1.1.1 ≤ x.toInt ∧ x.toInt ≤ b.1.1.2) (h : Ty G (SC a) ad ws) : Ty G (SC b) ad ws := by
  refine Ty.re (S := SC a) (S' := SC b) rfl (fun i e hi hw hc => ?_) h
  by_cases hk : (SC a).1 i = 16
  · have hi2 : i = 77 := (by decide +kernel : ∀ i, i < 209 → kdSC.getD i 999 = 16 → i = 77) i hi hk
    have e1 : (SC a).2.1 ((SC a).1 i) = .inr (.inr (.inr (5, ftsSC_16 a))) := by rw [hk]; rfl
    have e2 : (SC b).2.1 ((SC b).1 i) = .inr (.inr (.inr (5, ftsSC_16 b))) := by rw [show (SC b).1 i = 16 from hk]; rfl
    rw [e1] at hc
    rw [e2]
    obtain ⟨fs, rfl, hf⟩ := hc
    subst hi2
    refine ⟨fs, rfl, ft_re (q := 2) (P := fun _ t v => ftOk (SC a) ad 77 t v) (P' := fun _ t v => ftOk (SC b) ad 77 t v) (f := ftsSC_16 a) (f' := ftsSC_16 b) rfl ?_ (fun _ _ _ _ h => h) ?_ hf⟩
    · intro k hk
      match k, hk with
      | 0, hk => rfl
      | 1, hk => rfl
      | 2, hk => exact absurd rfl hk
      | 3, hk => rfl
      | 4, hk => rfl
      | 5, hk => rfl
      | 6, hk => rfl
      | 7, hk => rfl
      | 8, hk => rfl
      | 9, hk => rfl
      | 10, hk => rfl
      | k + 11, _ => rfl
    · intro t t' v ht ht' hv hp
      cases ht
      cases ht'
      obtain ⟨x, rfl, h1, h2⟩ := hp
      have hx : fI ws 77 2 = x := by unfold fI; rw [hw]; simp only [hv]
      exact ⟨x, rfl, (hb x hx h1 h2).1, (hb x hx h1 h2).2⟩
  · have e : (SC b).2.1 ((SC b).1 i) = (SC a).2.1 ((SC a).1 i) := ctSC_ne b a _ hk
    rw [e]
    exact hc
theorem SC_q0 {G : GG} {a : QQ} {ad : Nat → Nat} {ws : va_W} (h : Ty G (SC a) ad ws) : Ty G (SC q0) ad ws := SC_re (fun x _ h1 h2 => ⟨Int.le_trans a.2.1.1 h1, Int.le_trans h2 a.2.1.2⟩) h
theorem SC_at {G : GG} {a : QQ} {ad : Nat → Nat} {ws : va_W} (e : a.1.1.1 = (fI ws 77 2).toInt ∧ a.1.1.2 = (fI ws 77 2).toInt) (h : Ty G (SC q0) ad ws) : Ty G (SC a) ad ws := SC_re (fun x hx _ _ => by rw [e.1, e.2, hx]; exact ⟨Int.le_refl _, Int.le_refl _⟩) h
theorem SC_is {G : GG} {a : QQ} {ad : Nat → Nat} {ws : va_W} (ha : a.1.1.1 = a.1.1.2) (h : Ty G (SC a) ad ws) : (fI ws 77 2).toInt = a.1.1.1 := by
  have b := ty_fI (k := 2) h kSC_77 rfl rfl
  omega
section YX
variable {p : Program} {l : Launch} {e : Env} {R : Room} {s : State} {m : MethodId} {args : Array Value} {below : List Frame} {meth : Method} {c : Code} {H : Heap} {locs : List Loc} {cells slots : Nat} {Q : State → Prop}
variable {cc : ByteArray} {pc nL : Nat} {ls : Array Slot} {rest st0 : List Value} {G : GG} {A : Nat → Prop} {ws : va_W} {own : String} {ret : Option FieldType} {S S' : Sp} {ad : Nat → Nat}
theorem y_ciX {M : List Nat} {post : Int32 → va_W → Prop} {av : Array Value} (h : Wt G S ad A s H locs ws) (hr : va_Run p l e R s m args below meth c H locs cells slots 0 0 (F0 m pc ls st0) rest (PI G S' ad M ws post (va_A ws H.size) av) (va_A ws H.size))
    (kk : ∀ (r : Int32) (H1 : Heap) (locs1 : List Loc) (ws1 : va_W), Wt G S' ad A s H1 locs1 ws1 → Fr S' M ws ws1 → post r ws1 → W p l e R s m args below meth c H1 locs1 cells slots Q (F0 m (pc + 3) ls (.int r :: rest))) : W p l e R s m args below meth c H locs cells slots Q (F0 m pc ls st0) := by
  refine va_calli hr h.1.2.2.2.1 (fun q _ hq => y_hf h.1 q hq) (y_hf h.1) (fun r u t H1 locs1 ht _ hp hB _ hk hS => ?_)
  exact kk r H1 locs1 u ⟨y_back h.1 ht hB hS, hp.1.1⟩ hp.1.2 hp.2
end YX
def Fed (f0 f1 : Int) (r : Int32) : Prop := (880 < f0 ∧ f1 = f0 ∧ r.toInt = -5) ∨ (f0 ≤ 880 ∧ f1 = f0 + 20 ∧ r.toInt = f0 + 20)
def CtF (f0 f1 : Int) (a : Int32) : Prop := ((a.toInt < 0 ∨ f0 < a.toInt) ∧ f1 = f0) ∨ (0 ≤ a.toInt ∧ a.toInt ≤ f0 ∧ f1 = 0)
